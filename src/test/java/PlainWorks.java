import java.util.ArrayList;
import java.util.Arrays;
import java.util.Collections;
import java.util.List;
import java.util.Map;
import java.util.NoSuchElementException;
import java.util.TreeMap;

/**
 * The document once more, as plainly as can be and with nothing in common with CoatWorks: lists, maps and searches
 * that try everything. ModelTest asks both the same.
 */
final class PlainWorks {
    private static final List<String> HOUSE_WORDS =
            List.of("spot", "agent", "cloth", "drum", "loads", "sell", "lose", "express", "bleeds", "not");
    private static final List<String> WHATS =
            List.of("age", "late", "price", "weight", "size", "counter", "load", "loaded");
    private static final List<String> RULE_WORDS =
            List.of("or", "and", "no", "is", "stands", "fast", "claimed", "age", "late", "price", "weight", "size",
                    "counter", "load", "loaded");

    private static final class Fault extends Exception {
        final int kind;
        final int place;

        Fault(int kind, int place) {
            this.kind = kind;
            this.place = place;
        }
    }

    private static final class Agent {
        int cost;
        Map<Integer, Integer> chances = new TreeMap<>();
    }

    private static final class Cloth {
        int heat;
        int price;
        boolean bleeds;
        List<Integer> not = new ArrayList<>();
    }

    private static final class House {
        Map<String, int[]> names = new TreeMap<>();
        int spots = 0;
        List<Agent> agents = new ArrayList<>();
        List<Cloth> cloths = new ArrayList<>();
        List<int[]> drums = new ArrayList<>();
        Map<String, Integer> settings = new TreeMap<>();
        int lines = 0;

        int setting(String name, int without) {
            return settings.getOrDefault(name, without);
        }
    }

    private static final class Ticket {
        int cloth;
        int shade;
        int weight;
        int size;
        int marks;
        int counter;
        int taken;
        int due;
        boolean express;
        int load = 0;
        boolean claimed = false;

        Ticket copy() {
            Ticket t = new Ticket();
            t.cloth = cloth;
            t.shade = shade;
            t.weight = weight;
            t.size = size;
            t.marks = marks;
            t.counter = counter;
            t.taken = taken;
            t.due = due;
            t.express = express;
            t.load = load;
            t.claimed = claimed;
            return t;
        }
    }

    private interface Cond {
        boolean of(int t);
    }

    private static final class State {
        House house = new House();
        int today = 0;
        List<Ticket> tickets = new ArrayList<>();
        List<int[]> news = new ArrayList<>();
        List<int[]> book = new ArrayList<>();
        Cond rule = null;
        Map<Integer, Integer> drums = new TreeMap<>();
        Map<Integer, int[]> contracts = new TreeMap<>();
        Map<Integer, int[]> places = new TreeMap<>();

        State copy() {
            State s = new State();
            s.house = house;
            s.today = today;
            for (Ticket t : tickets) {
                s.tickets.add(t.copy());
            }
            s.news.addAll(news);
            s.book.addAll(book);
            s.rule = rule;
            s.drums.putAll(drums);
            s.contracts.putAll(contracts);
            s.places.putAll(places);
            return s;
        }
    }

    private final StringBuilder tape = new StringBuilder();
    private State now = new State();
    private final State[] kept = new State[2];
    private int fault = 0;
    private List<Integer> sure = new ArrayList<>();
    private List<Integer> order = new ArrayList<>();
    private List<Integer> recalled = new ArrayList<>();
    private List<Integer> causes = new ArrayList<>();
    private List<Integer> round = new ArrayList<>();

    private static boolean in(int n, int low, int high) {
        return low <= n && n <= high;
    }

    private static int at(List<Integer> list, int i) {
        return in(i, 0, list.size() - 1) ? list.get(i) : -1;
    }

    private List<Integer> taken() {
        List<Integer> bytes = new ArrayList<>();
        for (int i = 0; i < tape.length(); i++) {
            bytes.add((int) tape.charAt(i));
        }
        tape.setLength(0);
        return bytes;
    }

    // ---- the tape ----

    int feed(int... five) {
        if (tape.length() + 20 > 940) {
            return -1;
        }
        for (int n : five) {
            for (int i = 3; i >= 0; i--) {
                tape.append((char) (n >>> 8 * i & 255));
            }
        }
        return tape.length();
    }

    boolean end(int n) {
        if (!in(n, 0, tape.length())) {
            return false;
        }
        tape.setLength(n);
        return true;
    }

    // ---- texts ----

    /** Reads TOKENS along a text; "" is the end. */
    private static final class Reader {
        final String text;
        final int limit;
        int p = 0;

        Reader(String text, int limit) {
            this.text = text;
            this.limit = limit;
            skip();
        }

        private void skip() {
            while (p < Math.min(text.length(), limit) && " \n".indexOf(text.charAt(p)) >= 0) {
                p++;
            }
        }

        boolean atEnd() {
            return p >= Math.min(text.length(), limit);
        }

        /** The TOKEN that stands; FAULT 1, if there is none, or the text is too long here. */
        String peek() throws Fault {
            if (atEnd()) {
                if (text.length() > limit) {
                    throw new Fault(1, limit);
                }
                return "";
            }
            String rest = text.substring(p);
            String run = rest.replaceFirst("(?s)^([a-z0-9]*).*$", "$1");
            if (run.isEmpty()) {
                if (";()<=>".indexOf(rest.charAt(0)) < 0) {
                    throw new Fault(1, p);
                }
                return rest.substring(0, 1);
            }
            if (!run.matches("[a-z]{1,7}|[0-9]{1,3}")) {
                throw new Fault(1, p);
            }
            return run;
        }

        String take() throws Fault {
            String token = peek();
            p += token.length();
            skip();
            return token;
        }

        void want(String token) throws Fault {
            if (!peek().equals(token)) {
                throw new Fault(1, p);
            }
            take();
        }

        int number(int low, int high) throws Fault {
            if (!peek().matches("[0-9]+")) {
                throw new Fault(1, p);
            }
            if (!in(Integer.parseInt(peek()), low, high)) {
                throw new Fault(2, p);
            }
            return Integer.parseInt(take());
        }

        String name() throws Fault {
            String word = peek();
            if (!word.matches("[a-z]+") || HOUSE_WORDS.contains(word) || RULE_WORDS.contains(word)) {
                throw new Fault(1, p);
            }
            return word;
        }

        int told(House house, String sort) throws Fault {
            int[] is = house.names.get(name());
            if (is == null || is[0] != HOUSE_WORDS.indexOf(sort)) {
                throw new Fault(3, p);
            }
            return is[1];
        }
    }

    int house() {
        try {
            House h = readHouse(new Reader(tape.toString(), 900));
            State s = new State();
            s.house = h;
            s.today = now.today;
            s.places.putAll(now.places);
            now = s;
            fault = 0;
            return h.lines;
        } catch (Fault f) {
            fault = f.kind;
            return -1 - f.place;
        } finally {
            tape.setLength(0);
        }
    }

    private static House readHouse(Reader r) throws Fault {
        House h = new House();
        while (!r.peek().isEmpty()) {
            int first = r.p;
            String word = r.peek();
            switch (word) {
                case "spot":
                    newName(r, h, word, h.spots, 6);
                    h.spots++;
                    break;
                case "agent":
                    newName(r, h, word, h.agents.size(), 6);
                    h.agents.add(readAgent(r, h));
                    break;
                case "cloth":
                    newName(r, h, word, h.cloths.size(), 8);
                    h.cloths.add(readCloth(r, h));
                    break;
                case "drum":
                    newName(r, h, word, h.drums.size(), 4);
                    h.drums.add(new int[] {r.number(1, 99), r.number(0, 9)});
                    break;
                case "loads": case "sell": case "lose": case "express":
                    if (h.settings.containsKey(word)) {
                        throw new Fault(3, first);
                    }
                    r.take();
                    int low = word.equals("lose") ? 0 : word.equals("express") ? 100 : 1;
                    int high = word.equals("loads") ? 4 : word.equals("express") ? 300 : 99;
                    h.settings.put(word, r.number(low, high));
                    break;
                default:
                    throw new Fault(1, first);
            }
            r.want(";");
            h.lines++;
        }
        return h;
    }

    private static void newName(Reader r, House h, String sort, int had, int most) throws Fault {
        if (had == most) {
            throw new Fault(4, r.p);
        }
        r.take();
        if (h.names.containsKey(r.name())) {
            throw new Fault(3, r.p);
        }
        h.names.put(r.take(), new int[] {HOUSE_WORDS.indexOf(sort), had});
    }

    private static Agent readAgent(Reader r, House h) throws Fault {
        Agent a = new Agent();
        a.cost = r.number(0, 99);
        while (!r.peek().equals(";")) {
            int spot = r.told(h, "spot");
            if (a.chances.containsKey(spot)) {
                throw new Fault(3, r.p);
            }
            r.take();
            a.chances.put(spot, r.number(0, 20));
        }
        return a;
    }

    private static Cloth readCloth(Reader r, House h) throws Fault {
        Cloth c = new Cloth();
        c.heat = r.number(0, 9);
        c.price = r.number(0, 999);
        if (r.peek().equals("bleeds")) {
            r.take();
            c.bleeds = true;
        }
        while (r.peek().equals("not")) {
            r.take();
            int agent = r.told(h, "agent");
            if (c.not.contains(agent)) {
                throw new Fault(3, r.p);
            }
            r.take();
            c.not.add(agent);
        }
        return c;
    }

    int fault() {
        return fault;
    }

    // ---- the RULE ----

    private int ones;

    int rule() {
        try {
            Reader r = new Reader(tape.toString(), 200);
            ones = 0;
            Cond c = cond(r, 1);
            r.want("");
            now.rule = c;
            fault = 0;
            return ones;
        } catch (Fault f) {
            fault = f.kind;
            return -1 - f.place;
        } finally {
            tape.setLength(0);
        }
    }

    private Cond cond(Reader r, int depth) throws Fault {
        List<Cond> parts = new ArrayList<>();
        parts.add(all(r, depth));
        while (r.peek().equals("or")) {
            r.take();
            parts.add(all(r, depth));
        }
        return t -> parts.stream().anyMatch(c -> c.of(t));
    }

    private Cond all(Reader r, int depth) throws Fault {
        List<Cond> parts = new ArrayList<>();
        parts.add(one(r, depth));
        while (r.peek().equals("and")) {
            r.take();
            parts.add(one(r, depth));
        }
        return t -> parts.stream().allMatch(c -> c.of(t));
    }

    private Cond one(Reader r, int depth) throws Fault {
        String word = r.peek();
        boolean isOne = word.equals("(") || RULE_WORDS.contains(word) && !word.equals("or") && !word.equals("and");
        if (!isOne) {
            throw new Fault(1, r.p);
        }
        if (ones == 20 || depth == 9) {
            throw new Fault(4, r.p);
        }
        ones++;
        r.take();
        if (word.equals("(")) {
            Cond c = cond(r, depth + 1);
            r.want(")");
            return c;
        }
        if (word.equals("no")) {
            Cond c = one(r, depth + 1);
            return t -> !c.of(t);
        }
        if (word.equals("is")) {
            int cloth = r.told(now.house, "cloth");
            r.take();
            return t -> now.tickets.get(t).cloth == cloth;
        }
        if (word.equals("stands")) {
            int n = r.number(0, 5);
            return t -> standing(t, now.today, now.today) == n;
        }
        if (word.equals("fast")) {
            return t -> now.tickets.get(t).express;
        }
        if (word.equals("claimed")) {
            return t -> now.tickets.get(t).claimed;
        }
        String sign = r.peek();
        if (!sign.equals("<") && !sign.equals("=") && !sign.equals(">")) {
            throw new Fault(1, r.p);
        }
        r.take();
        int n = r.number(0, 999);
        return t -> {
            int is = what(WHATS.indexOf(word), t);
            return sign.equals("<") ? is < n : sign.equals("=") ? is == n : is > n;
        };
    }

    private int what(int what, int t) {
        Ticket of = now.tickets.get(t);
        int[] all = {now.today - of.taken, now.today - of.due, cost(t), of.weight, of.size, of.counter, of.load, 0};
        for (Ticket other : now.tickets) {
            all[7] += of.load != 0 && other.load == of.load ? 1 : 0;
        }
        return all[what];
    }

    int meets(int k) {
        if (now.rule == null) {
            return -1;
        }
        List<Integer> those = new ArrayList<>();
        for (int t = 0; t < now.tickets.size(); t++) {
            if (now.rule.of(t)) {
                those.add(t);
            }
        }
        return k == -1 ? those.size() : at(those, k);
    }

    // ---- TICKETS and NEWS ----

    int later(int n) {
        if (!in(n, 0, 199) || now.today + n > 199) {
            return -1;
        }
        now.today += n;
        return now.today;
    }

    private boolean isTicket(int t) {
        return in(t, 0, now.tickets.size() - 1);
    }

    int ticket(int kind, int weight, int size, int marks, int counter, int due) {
        int plain = kind >= 100 ? kind - 100 : kind;
        if (now.tickets.size() == 40 || !in(plain, 0, 3 * now.house.cloths.size() - 1) || !in(weight, 1, 200)
                || !in(size, 0, 9) || !in(marks, 0, 255) || !in(counter, 0, 39) || !in(due, now.today, 199)) {
            return -1;
        }
        Ticket t = new Ticket();
        t.cloth = plain / 3;
        t.shade = plain % 3;
        t.weight = weight;
        t.size = size;
        t.marks = marks;
        t.counter = counter;
        t.taken = now.today;
        t.due = due;
        t.express = kind >= 100;
        now.tickets.add(t);
        return now.tickets.size() - 1;
    }

    private int cost(int t) {
        Ticket of = now.tickets.get(t);
        int price = now.house.cloths.get(of.cloth).price;
        return of.express ? price * now.house.setting("express", 150) / 100 : price;
    }

    int about(int t, int what) {
        if (!isTicket(t) || !in(what, 0, 9)) {
            throw new NoSuchElementException();
        }
        Ticket of = now.tickets.get(t);
        return new int[] {of.cloth, of.shade, of.weight, of.size, of.marks, of.counter, of.taken, of.due, cost(t),
            of.load}[what];
    }

    int news(int t, int what, int day) {
        if (now.news.size() == 240 || !isTicket(t) || !in(what, 1, 5) || !in(day, now.tickets.get(t).taken, now.today)) {
            return -1;
        }
        now.news.add(new int[] {t, what, day, now.today});
        return now.news.size() - 1;
    }

    private int standing(int t, int day, int by) {
        for (int d = day; d >= 0; d--) {
            for (int i = now.news.size() - 1; i >= 0; i--) {
                int[] n = now.news.get(i);
                if (n[0] == t && n[2] == d && n[3] <= by) {
                    return n[1];
                }
            }
        }
        return 0;
    }

    private int today(int t) {
        return standing(t, now.today, now.today);
    }

    int stands(int t, int day, int by) {
        if (!isTicket(t) || !in(day, 0, 199) || !in(by, 0, 199) || now.tickets.get(t).taken > Math.min(day, by)) {
            return -1;
        }
        return standing(t, day, by);
    }

    int open(int what) {
        int[] sums = new int[4];
        for (int t = 0; t < now.tickets.size(); t++) {
            sums[0] += List.of(3, 4, 5).contains(today(t)) ? 0 : 1;
            sums[1] += today(t) == 0 ? 1 : 0;
            sums[2] += today(t) == 0 && now.tickets.get(t).due < now.today ? 1 : 0;
            sums[3] += today(t) == 3 ? cost(t) : 0;
        }
        return in(what, 0, 3) ? sums[what] : -1;
    }

    int twice(int t) {
        if (t == -1) {
            int sum = 0;
            for (int i = 0; i < now.tickets.size(); i++) {
                sum += twice(i);
            }
            return sum;
        }
        if (!isTicket(t)) {
            return -2;
        }
        return now.news.stream().filter(n -> n[0] == t && n[1] == 1).mapToInt(n -> n[2]).distinct().count() >= 2 ? 1 : 0;
    }

    boolean contract(int counter, int days, int pence) {
        if (!in(counter, 0, 39) || !in(days, 0, 30) || !in(pence, 0, 999)) {
            return false;
        }
        now.contracts.put(counter, new int[] {days, pence});
        return true;
    }

    int owed(int counter) {
        int[] contract = now.contracts.get(counter);
        if (contract == null) {
            return -1;
        }
        int sum = 0;
        for (int t = 0; t < now.tickets.size(); t++) {
            int number = t;
            int came = now.news.stream().filter(n -> n[0] == number && n[1] == 2).mapToInt(n -> n[2]).min()
                    .orElse(today(t) <= 2 ? now.today : -1000);
            int late = came - (now.tickets.get(t).taken + contract[0]);
            sum += now.tickets.get(t).counter == counter && late > 0 ? late * contract[1] : 0;
        }
        return sum;
    }

    int unfetched(int day, int what) {
        if (!in(day, 0, 199) || !in(what, 0, 2)) {
            return -1;
        }
        int[] answer = {0, 0, -1};
        for (int t = now.tickets.size() - 1; t >= 0; t--) {
            if (standing(t, day, now.today) == 2 && day - now.tickets.get(t).due >= now.house.setting("sell", 30)) {
                answer = new int[] {answer[0] + 1, answer[1] + cost(t), t};
            }
        }
        return answer[what];
    }

    // ---- LOADS ----

    int loads() {
        List<Integer> told = taken();
        return arePlanned(told) ? fewest(told, now.today, false) : -2;
    }

    int hurry() {
        List<Integer> told = taken();
        return arePlanned(told) ? fewest(told, now.today, true) : -2;
    }

    int patience() {
        List<Integer> told = taken();
        if (!arePlanned(told)) {
            return -2;
        }
        for (int day = 199; day >= now.today; day--) {
            if (fewest(told, day, false) >= 0) {
                return day;
            }
        }
        return -1;
    }

    private boolean arePlanned(List<Integer> told) {
        boolean good = in(told.size(), 1, 10) && told.stream().distinct().count() == told.size();
        for (int t : told) {
            good = good && isTicket(t) && today(t) == 0;
        }
        return good;
    }

    private int fewest(List<Integer> told, int day, boolean hurried) {
        return part(told, 0, new ArrayList<>(), day, hurried);
    }

    /** All ways to part the TICKETS into LOADS. */
    private int part(List<Integer> told, int i, List<List<Integer>> loads, int day, boolean hurried) {
        if (i == told.size()) {
            return canBeDone(loads, day, hurried ? told.get(0) : -1) ? loads.size() : -1;
        }
        int best = -1;
        for (int l = 0; l <= loads.size(); l++) {
            boolean isNew = l == loads.size();
            if (isNew) {
                loads.add(new ArrayList<>());
            }
            loads.get(l).add(told.get(i));
            if (fitsADrum(loads.get(l))) {
                int got = part(told, i + 1, loads, day, hurried);
                best = got >= 0 && (best < 0 || got < best) ? got : best;
            }
            loads.get(l).remove(loads.get(l).size() - 1);
            if (isNew) {
                loads.remove(l);
                break;
            }
        }
        return best;
    }

    private boolean fitsADrum(List<Integer> load) {
        for (int[] drum : now.house.drums) {
            int weight = 0;
            boolean good = true;
            for (int t : load) {
                Ticket of = now.tickets.get(t);
                weight += of.weight;
                good &= of.shade == now.tickets.get(load.get(0)).shade && now.house.cloths.get(of.cloth).heat >= drum[1];
            }
            if (good && weight <= 10 * drum[0]) {
                return true;
            }
        }
        return false;
    }

    private boolean canBeDone(List<List<Integer>> loads, int day, int hurried) {
        List<Integer> dues = new ArrayList<>();
        for (List<Integer> load : loads) {
            dues.add(load.stream().mapToInt(t -> t == hurried ? now.today : now.tickets.get(t).due).min().orElse(0));
        }
        Collections.sort(dues);
        for (int i = 0; i < dues.size(); i++) {
            if (day + i / now.house.setting("loads", 2) > dues.get(i)) {
                return false;
            }
        }
        return true;
    }

    // ---- FOUND coats ----

    long found() {
        List<Integer> told = taken();
        if (told.size() % 6 != 0 || !in(told.size() / 6, 1, 8)) {
            return -1;
        }
        List<List<Integer>> fits = new ArrayList<>();
        for (int i = 0; i < told.size(); i += 6) {
            List<Integer> coat = told.subList(i, i + 6);
            if (coat.get(0) >= now.house.cloths.size() || coat.get(1) > 2 || coat.get(2) > 9 || coat.get(4) > 10
                    || coat.get(5) > 10) {
                return -1;
            }
            List<Integer> those = new ArrayList<>();
            for (int t = 0; t < now.tickets.size(); t++) {
                Ticket of = now.tickets.get(t);
                if (today(t) <= 2 && of.cloth == coat.get(0) && of.shade == coat.get(1) && of.size == coat.get(2)
                        && (coat.get(3) & ~of.marks) == 0 && (coat.get(4) == 10 || coat.get(4) == t / 10)
                        && (coat.get(5) == 10 || coat.get(5) == t % 10)) {
                    those.add(t);
                }
            }
            fits.add(those);
        }
        List<List<Integer>> ways = new ArrayList<>();
        give(fits, new ArrayList<>(), ways);
        if (!ways.isEmpty()) {
            sure = new ArrayList<>(ways.get(0));
            for (List<Integer> way : ways) {
                for (int i = 0; i < sure.size(); i++) {
                    sure.set(i, sure.get(i).equals(way.get(i)) ? sure.get(i) : -1);
                }
            }
        }
        return ways.size();
    }

    private static void give(List<List<Integer>> fits, List<Integer> way, List<List<Integer>> ways) {
        if (way.size() == fits.size()) {
            ways.add(new ArrayList<>(way));
            return;
        }
        for (int t : fits.get(way.size())) {
            if (!way.contains(t)) {
                way.add(t);
                give(fits, way, ways);
                way.remove(way.size() - 1);
            }
        }
    }

    int sure(int i) {
        return at(sure, i);
    }

    // ---- SPOTS ----

    private boolean isStain(int cloth, List<Integer> told) {
        return in(cloth, 0, now.house.cloths.size() - 1) && told.size() == now.house.spots
                && told.stream().mapToInt(n -> n).sum() == 20;
    }

    private long failing(List<Integer> stain, List<Integer> agents) {
        long sum = 0;
        for (int spot = 0; spot < stain.size(); spot++) {
            long parts = stain.get(spot) * 64000000L;
            for (int a : agents) {
                parts = parts / 20 * (20 - now.house.agents.get(a).chances.getOrDefault(spot, 0));
            }
            sum += parts;
        }
        return sum;
    }

    long best(int cloth) {
        List<Integer> stain = taken();
        if (!isStain(cloth, stain)) {
            return -1;
        }
        long[] least = {-1};
        tryOrders(cloth, stain, new ArrayList<>(), 0, least);
        return least[0];
    }

    private void tryOrders(int cloth, List<Integer> stain, List<Integer> ahead, long cost, long[] least) {
        boolean whole = true;
        for (int a = 0; a < now.house.agents.size(); a++) {
            if (!ahead.contains(a) && !now.house.cloths.get(cloth).not.contains(a)) {
                whole = false;
                long more = now.house.agents.get(a).cost * failing(stain, ahead);
                ahead.add(a);
                tryOrders(cloth, stain, ahead, cost + more, least);
                ahead.remove(ahead.size() - 1);
            }
        }
        if (whole && (least[0] < 0 || cost < least[0])) {
            least[0] = cost;
            order = new ArrayList<>(ahead);
        }
    }

    int bestAt(int i) {
        return at(order, i);
    }

    long out(int cloth, int k) {
        List<Integer> stain = taken();
        if (!isStain(cloth, stain) || !in(k, 0, 6)) {
            return -1;
        }
        long most = 0;
        for (int set = 0; set < 1 << now.house.agents.size(); set++) {
            List<Integer> agents = new ArrayList<>();
            for (int a = 0; a < now.house.agents.size(); a++) {
                if ((set >> a & 1) == 1) {
                    agents.add(a);
                }
            }
            if (agents.size() <= k && Collections.disjoint(agents, now.house.cloths.get(cloth).not)) {
                most = Math.max(most, 1280000000L - failing(stain, agents));
            }
        }
        return most;
    }

    // ---- LOADS that were done ----

    boolean loaded(int t, int load) {
        if (!isTicket(t) || !in(load, 1, 99)) {
            return false;
        }
        now.tickets.get(t).load = load;
        return true;
    }

    boolean drum(int load, int drum) {
        if (!in(load, 1, 99) || !in(drum, 0, now.house.drums.size() - 1)) {
            return false;
        }
        now.drums.put(load, drum);
        return true;
    }

    int run(int k) {
        List<Integer> those = new ArrayList<>();
        for (int t = 0; t < now.tickets.size(); t++) {
            Ticket of = now.tickets.get(t);
            if (of.shade < 2 && of.load > 0 && now.tickets.stream().anyMatch(
                    o -> o.load == of.load && o.shade == 2 && now.house.cloths.get(o.cloth).bleeds)) {
                those.add(t);
            }
        }
        return k == -1 ? those.size() : at(those, k);
    }

    int recall(int cloth, int heat) {
        if (!in(cloth, 0, now.house.cloths.size() - 1) || !in(heat, 0, 9)) {
            return -1;
        }
        recalled = new ArrayList<>();
        for (int t = 0; t < now.tickets.size(); t++) {
            Integer drum = now.drums.get(now.tickets.get(t).load);
            if (now.tickets.get(t).cloth == cloth && drum != null && now.house.drums.get(drum)[1] > heat) {
                recalled.add(t);
            }
        }
        return recalled.size();
    }

    int recalled(int k) {
        return at(recalled, k);
    }

    // ---- CLAIMS ----

    int claim(int t) {
        if (count(7) == 12 || !isTicket(t) || now.tickets.get(t).claimed || !in(today(t), 1, 3)) {
            return -1;
        }
        now.tickets.get(t).claimed = true;
        return count(7);
    }

    private static boolean has(Ticket t, int cause) {
        return cause > 0 && (t.load == cause || 100 + t.cloth == cause || 200 + t.counter == cause);
    }

    int possible(int cause) {
        int all = 0;
        int claimed = 0;
        for (int t = 0; t < now.tickets.size(); t++) {
            if (in(today(t), 1, 3) && has(now.tickets.get(t), cause)) {
                all++;
                claimed += now.tickets.get(t).claimed ? 1 : 0;
            }
        }
        return all > 0 && all == claimed ? 1 : 0;
    }

    int causes() {
        List<Ticket> claims = new ArrayList<>();
        for (Ticket t : now.tickets) {
            if (t.claimed) {
                claims.add(t);
            }
        }
        List<Integer> possible = new ArrayList<>();
        for (int cause = 0; cause < 240; cause++) {
            if (possible(cause) == 1) {
                possible.add(cause);
            }
        }
        for (int size = 0; size <= claims.size(); size++) {
            List<Integer> got = choose(claims, possible, size, 0, new ArrayList<>());
            if (got != null) {
                causes = got;
                return size;
            }
        }
        return -1;
    }

    private static List<Integer> choose(List<Ticket> claims, List<Integer> possible, int size, int from, List<Integer> set) {
        if (set.size() == size) {
            boolean all = claims.stream().allMatch(t -> set.stream().anyMatch(c -> has(t, c)));
            return all ? new ArrayList<>(set) : null;
        }
        for (int i = from; i < possible.size(); i++) {
            set.add(possible.get(i));
            List<Integer> got = choose(claims, possible, size, i + 1, set);
            set.remove(set.size() - 1);
            if (got != null) {
                return got;
            }
        }
        return null;
    }

    int cause(int i) {
        return at(causes, i);
    }

    // ---- SOLVENT ----

    int solvent(int bought, int kilos, int left) {
        if (now.book.size() == 200 || !in(bought, 0, 30000) || !in(kilos, 0, 30000) || !in(left, 0, 30000)) {
            return -1;
        }
        now.book.add(new int[] {bought, kilos, left});
        return now.book.size() - 1;
    }

    int lost(int d) {
        if (!in(d, 0, now.book.size() - 1)) {
            throw new NoSuchElementException();
        }
        return (d > 0 ? now.book.get(d - 1)[2] : 0) + now.book.get(d)[0] - now.book.get(d)[2];
    }

    int broken() {
        for (int d = 0; d < now.book.size(); d++) {
            long lost = 0;
            long kilos = 0;
            for (int i = Math.max(0, d - 6); i <= d; i++) {
                lost += lost(i);
                kilos += now.book.get(i)[1];
            }
            if (lost > now.house.setting("lose", 20) * kilos) {
                return d;
            }
        }
        return -1;
    }

    // ---- the VAN ----

    boolean place(int counter, int x, int y) {
        if (!in(counter, 0, 39) || !in(x, 0, 99) || !in(y, 0, 99)) {
            return false;
        }
        now.places.put(counter, new int[] {x, y});
        return true;
    }

    int round() {
        List<Integer> told = taken();
        if (!in(told.size(), 1, 9) || told.stream().distinct().count() != told.size()
                || told.stream().anyMatch(c -> c > 39)) {
            return -1;
        }
        int[] least = {-1};
        drive(told, new ArrayList<>(), new int[] {50, 50}, 0, least);
        return least[0];
    }

    private static int way(int[] a, int[] b) {
        return Math.abs(a[0] - b[0]) + Math.abs(a[1] - b[1]);
    }

    private void drive(List<Integer> told, List<Integer> seen, int[] at, int length, int[] least) {
        if (seen.size() == told.size()) {
            int whole = length + way(at, new int[] {50, 50});
            if (least[0] < 0 || whole < least[0]) {
                least[0] = whole;
                round = new ArrayList<>(seen);
            }
            return;
        }
        for (int counter : told) {
            if (!seen.contains(counter)) {
                int[] to = now.places.getOrDefault(counter, new int[] {0, 0});
                seen.add(counter);
                drive(told, seen, to, length + way(at, to), least);
                seen.remove(seen.size() - 1);
            }
        }
    }

    int roundAt(int i) {
        return at(round, i);
    }

    // ---- images ----

    boolean image(int k) {
        if (!in(k, 0, 1)) {
            return false;
        }
        kept[k] = now.copy();
        return true;
    }

    boolean restore(int k) {
        if (!in(k, 0, 1) || kept[k] == null) {
            return false;
        }
        now = kept[k].copy();
        return true;
    }

    int count(int what) {
        int claims = (int) now.tickets.stream().filter(t -> t.claimed).count();
        int[] all = {now.house.spots, now.house.agents.size(), now.house.cloths.size(), now.house.drums.size(),
            now.tickets.size(), now.news.size(), now.today, claims, now.book.size(), tape.length()};
        return in(what, 0, 9) ? all[what] : -1;
    }
}
