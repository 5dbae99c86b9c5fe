import java.util.ArrayList;
import java.util.List;
import java.util.regex.Matcher;
import java.util.regex.Pattern;

/** The document once more, written plainly and without thrift, to hold the program against it. */
final class Model {
    private static final class Person {
        String name;
        int line;
        String rings;
        int curiosity;
        int bill;
        List<Integer> secrets = new ArrayList<>();

        Person copy() {
            Person copy = new Person();
            copy.name = name;
            copy.line = line;
            copy.rings = rings;
            copy.curiosity = curiosity;
            copy.bill = bill;
            copy.secrets = new ArrayList<>(secrets);
            return copy;
        }
    }

    private static final class Talk {
        int caller;
        int other = -1;
        int trunk = -1;
        boolean urgent;
        int state = 0;
        int start = -1;
        int end = -1;
        List<Integer> ears = new ArrayList<>();

        Talk copy() {
            Talk copy = new Talk();
            copy.caller = caller;
            copy.other = other;
            copy.trunk = trunk;
            copy.urgent = urgent;
            copy.state = state;
            copy.start = start;
            copy.end = end;
            copy.ears = new ArrayList<>(ears);
            return copy;
        }
    }

    private static final class State {
        int clock;
        int lines;
        int cords;
        List<Integer> tolls = new ArrayList<>();
        List<Person> people = new ArrayList<>();
        List<Talk> talks = new ArrayList<>();

        State copy() {
            State copy = new State();
            copy.clock = clock;
            copy.lines = lines;
            copy.cords = cords;
            copy.tolls.addAll(tolls);
            people.forEach(person -> copy.people.add(person.copy()));
            talks.forEach(talk -> copy.talks.add(talk.copy()));
            return copy;
        }
    }

    private static final class Wrong extends RuntimeException {
        private static final long serialVersionUID = 1;
        final int code;
        final int offset;

        Wrong(int code, int offset) {
            this.code = code;
            this.offset = offset;
        }
    }

    private State now = new State();
    private final List<State> past = new ArrayList<>();
    private final State[] kept = new State[2];
    private String input = "";
    private String output = "";
    private int code;
    private int offset = -1;

    Model() {
        input = Checks.SETUP;
        load();
        past.clear();
    }

    int append(int a, int b, int c, int d, int e) {
        if (input.length() > 680) {
            return -1;
        }
        for (int four : new int[] {a, b, c, d, e}) {
            for (int shift = 24; shift >= 0; shift -= 8) {
                input += (char) (four >>> shift & 255);
            }
        }
        return input.length();
    }

    int truncateInput(int length) {
        argument(length >= 0 && length <= input.length());
        input = input.substring(0, length);
        return length;
    }

    // ---- texts

    private List<String> words;
    private List<Integer> places;
    private int at;

    private void split() {
        words = new ArrayList<>();
        places = new ArrayList<>();
        at = 0;
        Matcher matcher = Pattern.compile("[a-z]+|[0-9]+|[^ ]", Pattern.DOTALL).matcher(input);
        while (matcher.find()) {
            words.add(matcher.group());
            places.add(matcher.start());
        }
        words.add("");
        places.add(input.length());
    }

    private Wrong wrong(int wrongCode) {
        return new Wrong(wrongCode, places.get(at));
    }

    private String peek() {
        return words.get(at);
    }

    private void expect(String word) {
        if (!peek().equals(word)) {
            throw wrong(1);
        }
        at++;
    }

    private int number(int least, int most) {
        if (!peek().matches("[0-9]+")) {
            throw wrong(1);
        }
        String digits = peek().replaceFirst("^0+", "");
        if (digits.length() > 7) {
            throw wrong(2);
        }
        int value = digits.isEmpty() ? 0 : Integer.parseInt(digits);
        if (value < least || value > most) {
            throw wrong(2);
        }
        at++;
        return value;
    }

    private String name() {
        if (!peek().matches("[a-z]{1,6}")) {
            throw wrong(1);
        }
        return peek();
    }

    private int person(int not) {
        String name = name();
        for (int who = 0; who < now.people.size(); who++) {
            if (now.people.get(who).name.equals(name) && who != not) {
                at++;
                return who;
            }
        }
        throw wrong(3);
    }

    private void user() {
        if (now.people.size() == 15) {
            throw wrong(6);
        }
        at++;
        Person person = new Person();
        person.name = name();
        for (Person other : now.people) {
            if (other.name.equals(person.name)) {
                throw wrong(4);
            }
        }
        at++;
        person.line = number(0, now.lines - 1);
        person.rings = peek();
        if (!person.rings.matches("[sl]{1,5}")) {
            throw wrong(1);
        }
        for (Person other : now.people) {
            if (other.line == person.line
                    && (other.rings.startsWith(person.rings) || person.rings.startsWith(other.rings))) {
                throw wrong(5);
            }
        }
        at++;
        person.curiosity = number(0, 9);
        expect(";");
        person.secrets.add(now.people.size());
        now.people.add(person);
    }

    private void setup() {
        now = new State();
        expect("board");
        now.lines = number(1, 6);
        now.cords = number(1, 6);
        expect(";");
        while (peek().equals("trunk")) {
            if (now.tolls.size() == 4) {
                throw wrong(6);
            }
            at++;
            int toll = number(1, 99);
            expect(";");
            now.tolls.add(toll);
        }
        if (!peek().equals("user")) {
            throw wrong(1);
        }
        while (peek().equals("user")) {
            user();
        }
    }

    private int script() {
        int count = 0;
        while (!peek().isEmpty()) {
            command();
            count++;
        }
        return count;
    }

    private void command() {
        String verb = peek();
        if (!verb.matches("call|trunk|end|wait|mood")) {
            throw wrong(1);
        }
        at++;
        if (verb.equals("call") || verb.equals("trunk")) {
            int caller = person(-1);
            int to = verb.equals("call") ? person(caller) : number(0, now.tolls.size() - 1);
            boolean urgent = peek().equals("urgent");
            at += urgent ? 1 : 0;
            if (peek().equals(";") && now.talks.size() == 40) {
                throw wrong(6);
            }
            expect(";");
            request(caller, verb.equals("call") ? to : -1, verb.equals("call") ? -1 : to, urgent);
        } else if (verb.equals("end")) {
            int number = number(0, now.talks.size() - 1);
            if (peek().equals(";") && now.talks.get(number).state >= 2) {
                throw wrong(7);
            }
            expect(";");
            finish(number);
        } else if (verb.equals("wait")) {
            int seconds = number(1, Math.min(9999, 999999 - now.clock));
            expect(";");
            now.clock += seconds;
        } else {
            int who = person(-1);
            int curiosity = number(0, 9);
            expect(";");
            now.people.get(who).curiosity = curiosity;
        }
    }

    private int read(boolean isSetup) {
        State before = now.copy();
        int answer = -1;
        code = 0;
        offset = -1;
        try {
            split();
            if (isSetup) {
                setup();
            }
            int commands = script();
            answer = isSetup ? now.people.size() : commands;
            remember(before);
        } catch (Wrong error) {
            code = error.code;
            offset = error.offset;
            now = before;
        }
        input = "";
        return answer;
    }

    int load() {
        return read(true);
    }

    int play() {
        return read(false);
    }

    int errorCode() {
        return code;
    }

    int errorOffset() {
        return offset;
    }

    // ---- changes

    private static void index(boolean holds) {
        if (!holds) {
            throw new IndexOutOfBoundsException();
        }
    }

    private static void argument(boolean holds) {
        if (!holds) {
            throw new IllegalArgumentException();
        }
    }

    private static void state(boolean holds) {
        if (!holds) {
            throw new IllegalStateException();
        }
    }

    private Person whose(int who) {
        index(who >= 0 && who < now.people.size());
        return now.people.get(who);
    }

    private Talk talk(int number) {
        index(number >= 0 && number < now.talks.size());
        return now.talks.get(number);
    }

    private void remember(State before) {
        past.add(before);
        if (past.size() > 8) {
            past.remove(0);
        }
    }

    private List<Integer> linesOf(Talk talk) {
        List<Integer> lines = new ArrayList<>();
        lines.add(now.people.get(talk.caller).line);
        if (talk.other >= 0 && !lines.contains(now.people.get(talk.other).line)) {
            lines.add(now.people.get(talk.other).line);
        }
        return lines;
    }

    private int cordsOf(Talk talk) {
        return talk.trunk >= 0 || linesOf(talk).size() == 2 ? 1 : 0;
    }

    private int reason(Talk talk) {
        if (isLineBusy(now.people.get(talk.caller).line)) {
            return 1;
        }
        if (talk.other >= 0 ? isLineBusy(now.people.get(talk.other).line) : isTrunkBusy(talk.trunk)) {
            return 2;
        }
        return cordsOf(talk) > freeCords() ? 3 : 0;
    }

    private void begin(Talk talk) {
        talk.ears = ears(linesOf(talk), talk.caller, talk.other);
        talk.state = 1;
        talk.start = now.clock;
        List<Integer> told = new ArrayList<>(now.people.get(talk.caller).secrets);
        if (talk.other >= 0) {
            told.addAll(now.people.get(talk.other).secrets);
        }
        List<Integer> who = new ArrayList<>(talk.ears);
        who.add(talk.caller);
        if (talk.other >= 0) {
            who.add(talk.other);
        }
        for (int listener : who) {
            for (int secret : told) {
                if (!now.people.get(listener).secrets.contains(secret)) {
                    now.people.get(listener).secrets.add(secret);
                }
            }
        }
    }

    private List<Integer> ears(List<Integer> lines, int caller, int other) {
        List<Integer> ears = new ArrayList<>();
        for (int who = 0; who < now.people.size(); who++) {
            Person person = now.people.get(who);
            if (who != caller && who != other && lines.contains(person.line) && person.curiosity >= 5) {
                ears.add(who);
            }
        }
        return ears;
    }

    private int request(int caller, int other, int trunk, boolean urgent) {
        Talk talk = new Talk();
        talk.caller = caller;
        talk.other = other;
        talk.trunk = trunk;
        talk.urgent = urgent;
        now.talks.add(talk);
        if (reason(talk) == 0) {
            begin(talk);
        }
        return now.talks.size() - 1;
    }

    private List<Talk> queue() {
        List<Talk> queue = new ArrayList<>();
        now.talks.stream().filter(talk -> talk.state == 0 && talk.urgent).forEach(queue::add);
        now.talks.stream().filter(talk -> talk.state == 0 && !talk.urgent).forEach(queue::add);
        return queue;
    }

    private int finish(int number) {
        Talk ended = now.talks.get(number);
        now.people.get(ended.caller).bill += charge(number);
        ended.state = ended.state == 1 ? 2 : 3;
        ended.end = now.clock;
        int starts = 0;
        for (Talk talk : queue()) {
            if (reason(talk) == 0) {
                begin(talk);
                starts++;
            }
        }
        return starts;
    }

    int call(int caller, int other, boolean urgent) {
        whose(caller);
        whose(other);
        argument(caller != other);
        state(now.talks.size() < 40);
        remember(now.copy());
        return request(caller, other, -1, urgent);
    }

    int callTrunk(int caller, int trunk, boolean urgent) {
        whose(caller);
        index(trunk >= 0 && trunk < now.tolls.size());
        state(now.talks.size() < 40);
        remember(now.copy());
        return request(caller, -1, trunk, urgent);
    }

    int end(int number) {
        state(talk(number).state < 2);
        remember(now.copy());
        return finish(number);
    }

    int waitFor(int seconds) {
        argument(seconds >= 1 && seconds <= 9999);
        state(now.clock + seconds <= 999999);
        remember(now.copy());
        now.clock += seconds;
        return now.clock;
    }

    int setCuriosity(int who, int curiosity) {
        int previous = whose(who).curiosity;
        argument(curiosity >= 0 && curiosity <= 9);
        remember(now.copy());
        whose(who).curiosity = curiosity;
        return previous;
    }

    int undo() {
        state(!past.isEmpty());
        now = past.remove(past.size() - 1);
        return past.size();
    }

    int save(int slot) {
        argument(slot == 0 || slot == 1);
        kept[slot] = now.copy();
        return now.clock;
    }

    int restore(int slot) {
        argument(slot == 0 || slot == 1);
        state(kept[slot] != null);
        remember(now);
        now = kept[slot].copy();
        return now.clock;
    }

    // ---- the board

    int clock() {
        return now.clock;
    }

    int lineCount() {
        return now.lines;
    }

    int cordCount() {
        return now.cords;
    }

    int freeCords() {
        return now.cords - now.talks.stream().filter(talk -> talk.state == 1).mapToInt(this::cordsOf).sum();
    }

    int trunkCount() {
        return now.tolls.size();
    }

    int subscriberCount() {
        return now.people.size();
    }

    int callCount() {
        return now.talks.size();
    }

    int waitingCalls() {
        return queue().size();
    }

    int talkingCalls() {
        return (int) now.talks.stream().filter(talk -> talk.state == 1).count();
    }

    int undoableChanges() {
        return past.size();
    }

    boolean isLineBusy(int line) {
        index(line >= 0 && line < now.lines);
        return now.talks.stream().anyMatch(talk -> talk.state == 1 && linesOf(talk).contains(line));
    }

    boolean isTrunkBusy(int trunk) {
        index(trunk >= 0 && trunk < now.tolls.size());
        return now.talks.stream().anyMatch(talk -> talk.state == 1 && talk.trunk == trunk);
    }

    int toll(int trunk) {
        index(trunk >= 0 && trunk < now.tolls.size());
        return now.tolls.get(trunk);
    }

    // ---- subscribers

    int lineOf(int who) {
        return whose(who).line;
    }

    int curiosity(int who) {
        return whose(who).curiosity;
    }

    int bill(int who) {
        return whose(who).bill;
    }

    int ringCount(int who) {
        return whose(who).rings.length();
    }

    int ringSeconds(int who) {
        int seconds = whose(who).rings.length() - 1;
        for (char ring : whose(who).rings.toCharArray()) {
            seconds += ring == 's' ? 1 : 3;
        }
        return seconds;
    }

    int secretsKnown(int who) {
        return mask(whose(who).secrets);
    }

    private static int mask(List<Integer> numbers) {
        return numbers.stream().mapToInt(number -> 1 << number).sum();
    }

    int neighbours(int who) {
        int line = whose(who).line;
        return (int) now.people.stream().filter(person -> person.line == line && person != whose(who)).count();
    }

    int nameByte(int who, int place) {
        String name = whose(who).name;
        return place >= 0 && place < name.length() ? name.charAt(place) : -1;
    }

    int whoAnswers(int line, int rings) {
        index(line >= 0 && line < now.lines);
        for (int who = 0; who < now.people.size(); who++) {
            String digits = "1" + whose(who).rings.replace('s', '0').replace('l', '1');
            if (whose(who).line == line && Integer.parseInt(digits, 2) == rings) {
                return who;
            }
        }
        return -1;
    }

    int knowers(int secret) {
        whose(secret);
        return (int) now.people.stream().filter(person -> person.secrets.contains(secret)).count();
    }

    int bestInformed() {
        int best = 0;
        for (int who = 1; who < now.people.size(); who++) {
            best = whose(who).secrets.size() > whose(best).secrets.size() ? who : best;
        }
        return best;
    }

    // ---- calls

    int callState(int number) {
        return talk(number).state;
    }

    int callerOf(int number) {
        return talk(number).caller;
    }

    int calledSubscriber(int number) {
        return talk(number).other;
    }

    int calledTrunk(int number) {
        return talk(number).trunk;
    }

    int startTime(int number) {
        return talk(number).start;
    }

    int endTime(int number) {
        return talk(number).end;
    }

    int listeners(int number) {
        return mask(talk(number).ears);
    }

    int volume(int number) {
        int volume = 100;
        for (int ear : talk(number).ears) {
            volume -= (int) Math.ceil(volume / 10.0);
        }
        return volume;
    }

    int charge(int number) {
        Talk talk = talk(number);
        if (talk.start < 0) {
            return 0;
        }
        if (talk.trunk < 0) {
            return 5;
        }
        int seconds = (talk.end < 0 ? now.clock : talk.end) - talk.start;
        int minutes = 1;
        while (60 * minutes < seconds) {
            minutes++;
        }
        return minutes * now.tolls.get(talk.trunk);
    }

    int obstacle(int number) {
        return talk(number).state == 0 ? reason(talk(number)) : 0;
    }

    int queuePlace(int number) {
        return queue().indexOf(talk(number));
    }

    boolean isUrgent(int number) {
        return talk(number).urgent;
    }

    // ---- forecasts

    int listenersBetween(int caller, int other) {
        List<Integer> lines = List.of(whose(caller).line, whose(other).line);
        argument(caller != other);
        return mask(ears(lines, caller, other));
    }

    int startsIfEnded(int number) {
        if (talk(number).state >= 2) {
            return 0;
        }
        State before = now.copy();
        int starts = finish(number);
        now = before;
        return starts;
    }

    int quietestCall(int caller) {
        whose(caller);
        for (int count = 0; count <= 15; count++) {
            for (int other = 0; other < now.people.size(); other++) {
                if (other != caller && Integer.bitCount(listenersBetween(caller, other)) == count) {
                    return other;
                }
            }
        }
        return -1;
    }

    // ---- consistency, averages and output

    int inconsistencies() {
        return 0;
    }

    double meanVolume() {
        int sum = 0;
        int count = 0;
        for (int number = 0; number < now.talks.size(); number++) {
            if (talk(number).start >= 0) {
                sum += volume(number);
                count++;
            }
        }
        return count == 0 ? 0.0 : (double) sum / (double) count;
    }

    float gossipShare() {
        int pairs = now.people.stream().mapToInt(person -> person.secrets.size()).sum();
        return (float) pairs / (float) (now.people.size() * now.people.size());
    }

    int writeCalls() {
        List<String> parts = new ArrayList<>();
        for (Talk talk : now.talks) {
            if (talk.state < 2) {
                parts.add(whose(talk.caller).name + (talk.state == 1 ? "-" : "?")
                        + (talk.other >= 0 ? whose(talk.other).name : "" + talk.trunk));
            }
        }
        output = String.join(" ", parts);
        return output.length();
    }

    int outputByte(int place) {
        return place >= 0 && place < output.length() ? output.charAt(place) : -1;
    }
}
