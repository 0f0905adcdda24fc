import java.util.ArrayList;
import java.util.List;
import java.util.Random;
import java.util.TreeMap;
import java.util.TreeSet;

/** Long runs of calls, each answer compared with that of a slow model that follows the document's words. */
public final class ModelTest {
    private static final int RUNS = 1500;
    private static final int CALLS = 512;

    private static final class Refused extends RuntimeException {
        private static final long serialVersionUID = 1L;

        Refused(String name) {
            super(name);
        }
    }

    /** The document, word by word, without a thought for speed. */
    private static final class Model {
        final int[][] ground = new int[20][20];
        final List<int[]> sites = new ArrayList<>();
        final List<int[]> stations = new ArrayList<>();
        final TreeMap<Integer, Integer> on = new TreeMap<>();
        final List<TreeMap<Integer, Integer>> days = new ArrayList<>();
        final TreeSet<Integer> foreign = new TreeSet<>();
        final TreeMap<Integer, Integer> yesDay = new TreeMap<>();
        final TreeSet<Integer> objections = new TreeSet<>();
        final int[] asks = new int[8];
        final List<int[]> bidders = new ArrayList<>();
        int[] bought = new int[4];
        long[] dues = new long[4];
        int ratio = 170;
        TreeSet<Integer> stayed;
        int soldChannels;
        TreeMap<Integer, Integer> prices = new TreeMap<>();
        int rounds;
        TreeMap<Integer, Integer> phases = new TreeMap<>();
        int dark;
        boolean wasMoved;

        Model() {
            days.add(new TreeMap<>());
        }

        static void refuse(boolean when, String name) {
            if (when) {
                throw new Refused(name);
            }
        }

        static boolean out(int value, int least, int most) {
            return value < least || value > most;
        }

        void needSite(int site) {
            refuse(out(site, 0, sites.size() - 1), "IndexOutOfBoundsException");
        }

        void needStation(int station) {
            refuse(out(station, 0, stations.size() - 1), "IndexOutOfBoundsException");
        }

        void needBidder(int bidder) {
            refuse(out(bidder, 0, bidders.size() - 1), "IndexOutOfBoundsException");
        }

        void need(int value, int least, int most) {
            refuse(out(value, least, most), "IllegalArgumentException");
        }

        boolean isProtected(int station) {
            return stations.get(station)[3] == 1;
        }

        int today() {
            return days.size() - 1;
        }

        void note() {
            days.set(today(), new TreeMap<>(on));
        }

        long setGround(int column, int row, int value) {
            refuse(out(column, 0, 19) || out(row, 0, 19), "IndexOutOfBoundsException");
            need(value, 0, 99);
            refuse(!on.isEmpty(), "IllegalStateException");
            int before = ground[column][row];
            ground[column][row] = value;
            return before;
        }

        long addSite(int column, int row, int height) {
            refuse(out(column, 0, 19) || out(row, 0, 19), "IndexOutOfBoundsException");
            need(height, 0, 99);
            refuse(sites.size() == 10, "IllegalStateException");
            sites.add(new int[] {column, row, height});
            return sites.size() - 1;
        }

        int lossOf(int one, int another) {
            if (one == another) {
                return 0;
            }
            int[] a = sites.get(Math.min(one, another));
            int[] b = sites.get(Math.max(one, another));
            int dc = b[0] - a[0];
            int dr = b[1] - a[1];
            int square = 100 * (dc * dc + dr * dr);
            int root = 0;
            while ((root + 1) * (root + 1) <= square) {
                root++;
            }
            int answer = 200 + 8 * root;
            int n = Math.max(Math.abs(dc), Math.abs(dr));
            for (int k = 1; k < n; k++) {
                int column = a[0] + (int) Math.floor((double) (k * dc) / n);
                int row = a[1] + (int) Math.floor((double) (k * dr) / n);
                int ha = a[2] + ground[a[0]][a[1]];
                int hb = b[2] + ground[b[0]][b[1]];
                if (ground[column][row] > (ha * (n - k) + hb * k) / n) {
                    answer += 60;
                }
            }
            return answer;
        }

        long loss(int one, int another) {
            needSite(one);
            needSite(another);
            return lossOf(one, another);
        }

        long addStation(int sends, int receives, int power, boolean is) {
            needSite(sends);
            needSite(receives);
            refuse(sends == receives || out(power, 0, 500), "IllegalArgumentException");
            refuse(stations.size() == 8, "IllegalStateException");
            stations.add(new int[] {sends, receives, power, is ? 1 : 0});
            return stations.size() - 1;
        }

        long setRatio(int value) {
            need(value, 0, 500);
            refuse(!on.isEmpty(), "IllegalStateException");
            int before = ratio;
            ratio = value;
            return before;
        }

        int levelOf(int station) {
            int[] s = stations.get(station);
            return s[2] - lossOf(s[0], s[1]);
        }

        long level(int station) {
            needStation(station);
            return levelOf(station);
        }

        Integer harmOf(int station, TreeMap<Integer, Integer> map) {
            Integer all = null;
            for (int other : map.keySet()) {
                int apart = Math.abs(map.get(other) - map.get(station));
                if (other == station || apart > 2) {
                    continue;
                }
                int[] s = stations.get(other);
                int harm = s[2] - lossOf(s[0], stations.get(station)[1]) - new int[] {0, 300, 500}[apart];
                if (all == null) {
                    all = harm;
                } else {
                    int differ = Math.abs(all - harm);
                    all = Math.max(all, harm) + (30 - differ / 4 > 0 ? 30 - differ / 4 : 0);
                }
            }
            return all;
        }

        boolean keepsIn(int station, TreeMap<Integer, Integer> map) {
            Integer harm = harmOf(station, map);
            return harm == null || levelOf(station) - harm >= ratio;
        }

        boolean allKeep(TreeMap<Integer, Integer> map) {
            for (int station : map.keySet()) {
                if (isProtected(station) && !keepsIn(station, map)) {
                    return false;
                }
            }
            return true;
        }

        long harm(int station) {
            needStation(station);
            refuse(!on.containsKey(station), "UnsupportedOperationException");
            Integer harm = harmOf(station, on);
            refuse(harm == null, "NoSuchElementException");
            return harm;
        }

        long keeps(int station) {
            needStation(station);
            refuse(!on.containsKey(station), "UnsupportedOperationException");
            return keepsIn(station, on) ? 1 : 0;
        }

        boolean barred(int one, int channel, int another, int otherChannel) {
            TreeMap<Integer, Integer> alone = new TreeMap<>();
            alone.put(one, channel);
            alone.put(another, otherChannel);
            return !allKeep(alone);
        }

        long bars(int one, int channel, int another, int otherChannel) {
            needStation(one);
            needStation(another);
            refuse(one == another, "IllegalArgumentException");
            need(channel, 0, 7);
            need(otherChannel, 0, 7);
            return barred(one, channel, another, otherChannel) ? 1 : 0;
        }

        boolean nearBorder(int station) {
            int[] s = stations.get(station);
            return sites.get(s[0])[0] >= 15 || sites.get(s[1])[0] >= 15;
        }

        boolean yes(int station, int channel) {
            int key = station * 8 + channel;
            return yesDay.containsKey(key) && !objections.contains(key) && today() >= yesDay.get(key);
        }

        long putOn(int station, int channel) {
            needStation(station);
            need(channel, 0, 7);
            refuse(foreign.contains(channel) && nearBorder(station) && !yes(station, channel),
                "IllegalStateException");
            TreeMap<Integer, Integer> then = new TreeMap<>(on);
            then.remove(station);
            int gone = 0;
            for (int other : on.descendingKeySet()) {
                if (isProtected(station) && !isProtected(other)
                    && barred(station, channel, other, on.get(other))) {
                    then.remove(other);
                    gone++;
                }
            }
            then.put(station, channel);
            refuse(!allKeep(then), "UnsupportedOperationException");
            on.clear();
            on.putAll(then);
            note();
            return gone;
        }

        long putOff(int station) {
            needStation(station);
            Integer before = on.remove(station);
            note();
            return before == null ? -1 : before;
        }

        long channelOf(int station, int day) {
            needStation(station);
            need(day, 0, today());
            return days.get(day).getOrDefault(station, -1);
        }

        long setForeign(int channel, boolean is) {
            need(channel, 0, 7);
            boolean was = is ? !foreign.add(channel) : foreign.remove(channel);
            return was ? 1 : 0;
        }

        long askAbroad(int station, int channel) {
            needStation(station);
            need(channel, 0, 7);
            objections.remove(station * 8 + channel);
            yesDay.put(station * 8 + channel, today() + 3);
            return today() + 3;
        }

        long object(int station, int channel) {
            needStation(station);
            need(channel, 0, 7);
            int key = station * 8 + channel;
            refuse(!yesDay.containsKey(key), "NoSuchElementException");
            if (today() >= yesDay.get(key)) {
                return 0;
            }
            objections.add(key);
            return 1;
        }

        long hasYes(int station, int channel) {
            needStation(station);
            need(channel, 0, 7);
            return yes(station, channel) ? 1 : 0;
        }

        long goOn(int many) {
            need(many, 1, 99);
            for (int i = 0; i < many; i++) {
                days.add(new TreeMap<>(on));
            }
            return today();
        }

        TreeMap<Integer, Integer> pack(TreeSet<Integer> set, int channels) {
            TreeMap<Integer, Integer> found = new TreeMap<>();
            return packOn(new ArrayList<>(set), 0, channels, found) ? found : null;
        }

        boolean packOn(List<Integer> set, int index, int channels, TreeMap<Integer, Integer> found) {
            if (index == set.size()) {
                return true;
            }
            for (int channel = 0; channel < channels; channel++) {
                boolean free = true;
                for (int other : found.keySet()) {
                    free &= !barred(set.get(index), channel, other, found.get(other));
                }
                if (free) {
                    found.put(set.get(index), channel);
                    if (packOn(set, index + 1, channels, found)) {
                        return true;
                    }
                    found.remove(set.get(index));
                }
            }
            return false;
        }

        TreeSet<Integer> allProtected() {
            TreeSet<Integer> set = new TreeSet<>();
            for (int i = 0; i < stations.size(); i++) {
                if (isProtected(i)) {
                    set.add(i);
                }
            }
            return set;
        }

        long canPack(int channels) {
            need(channels, 1, 8);
            return pack(allProtected(), channels) != null ? 1 : 0;
        }

        long packed(int channels, int station) {
            need(channels, 1, 8);
            needStation(station);
            refuse(!isProtected(station), "UnsupportedOperationException");
            TreeMap<Integer, Integer> found = pack(allProtected(), channels);
            refuse(found == null, "NoSuchElementException");
            return found.get(station);
        }

        long setAsked(int station, int price) {
            needStation(station);
            need(price, 0, 9999);
            int before = asks[station];
            asks[station] = price;
            return before;
        }

        boolean fitsWith(TreeSet<Integer> staying, int station, int channels) {
            TreeSet<Integer> both = new TreeSet<>(staying);
            both.add(station);
            return pack(both, channels) != null;
        }

        long sell(int price, int step, int channels) {
            need(price, 1, 9999);
            need(step, 1, 999);
            need(channels, 1, 8);
            TreeSet<Integer> in = allProtected();
            in.retainAll(on.keySet());
            refuse(in.isEmpty(), "UnsupportedOperationException");
            TreeSet<Integer> stay = new TreeSet<>();
            for (int station : in) {
                if (asks[station] > price) {
                    stay.add(station);
                }
            }
            refuse(pack(stay, channels) == null, "UnsupportedOperationException");
            in.removeAll(stay);
            prices = new TreeMap<>();
            rounds = 0;
            int now = price;
            while (!in.isEmpty() && now - step >= 0) {
                rounds++;
                for (int station : new ArrayList<>(in)) {
                    if (!fitsWith(stay, station, channels)) {
                        prices.put(station, now);
                        in.remove(station);
                    } else if (asks[station] > now - step) {
                        stay.add(station);
                        in.remove(station);
                    }
                }
                now -= step;
            }
            for (int station : in) {
                prices.put(station, now);
            }
            stayed = stay;
            soldChannels = channels;
            on.keySet().removeAll(prices.keySet());
            note();
            return prices.size();
        }

        long priceOf(int station) {
            needStation(station);
            refuse(!prices.containsKey(station), "NoSuchElementException");
            return prices.get(station);
        }

        long addBidder(int first, int second, int third) {
            need(first, 0, 9999);
            need(second, 0, first);
            need(third, 0, second);
            refuse(bidders.size() == 4, "IllegalStateException");
            bidders.add(new int[] {first, second, third});
            return bidders.size() - 1;
        }

        /** Who wins how many: all worths above 0 in one list, greatest first, then the lowest bidder. */
        int[] winners(int channels, int without) {
            List<int[]> bids = new ArrayList<>();
            for (int i = 0; i < bidders.size(); i++) {
                for (int worth : bidders.get(i)) {
                    if (i != without && worth > 0) {
                        bids.add(new int[] {worth, i});
                    }
                }
            }
            bids.sort((a, b) -> a[0] != b[0] ? b[0] - a[0] : a[1] - b[1]);
            int[] won = new int[4];
            for (int i = 0; i < Math.min(channels, bids.size()); i++) {
                won[bids.get(i)[1]]++;
            }
            return won;
        }

        long worth(int[] won, int without) {
            long sum = 0;
            for (int i = 0; i < bidders.size(); i++) {
                for (int k = 0; k < won[i] && i != without; k++) {
                    sum += bidders.get(i)[k];
                }
            }
            return sum;
        }

        long buy(int channels) {
            need(channels, 0, 8);
            bought = winners(channels, -1);
            for (int i = 0; i < bidders.size(); i++) {
                dues[i] = worth(winners(channels, i), i) - worth(bought, i);
            }
            return bought[0] + bought[1] + bought[2] + bought[3];
        }

        long bought(int bidder) {
            needBidder(bidder);
            return bought[bidder];
        }

        long pays(int bidder) {
            needBidder(bidder);
            return dues[bidder];
        }

        boolean free(int station, int channel) {
            for (int other : on.keySet()) {
                if (other != station && isProtected(other) && barred(station, channel, other, on.get(other))) {
                    return false;
                }
            }
            return true;
        }

        long move(int crews) {
            need(crews, 1, 4);
            refuse(stayed == null, "UnsupportedOperationException");
            TreeSet<Integer> movers = new TreeSet<>(stayed);
            movers.retainAll(on.keySet());
            TreeMap<Integer, Integer> goal = pack(movers, soldChannels);
            refuse(goal == null, "UnsupportedOperationException");
            wasMoved = true;
            dark = 0;
            phases = new TreeMap<>();
            for (int station : movers) {
                if (on.get(station).equals(goal.get(station))) {
                    phases.put(station, 0);
                }
            }
            int phase = 0;
            while (phases.size() < movers.size()) {
                int moved = 0;
                for (int station : movers) {
                    if (moved < crews && !phases.containsKey(station) && free(station, goal.get(station))) {
                        on.put(station, goal.get(station));
                        phases.put(station, phase + 1);
                        moved++;
                        for (int other : new ArrayList<>(on.keySet())) {
                            if (!isProtected(other)
                                && barred(station, goal.get(station), other, on.get(other))) {
                                on.remove(other);
                            }
                        }
                    }
                }
                if (moved == 0) {
                    TreeSet<Integer> left = new TreeSet<>(movers);
                    left.removeAll(phases.keySet());
                    left.retainAll(on.keySet());
                    if (left.isEmpty()) {
                        break;
                    }
                    on.remove(left.first());
                    dark++;
                }
                phase++;
            }
            note();
            return phase;
        }

        long phaseOf(int station) {
            needStation(station);
            refuse(!phases.containsKey(station), "NoSuchElementException");
            return phases.get(station);
        }

        double onShare() {
            refuse(stations.isEmpty(), "ArithmeticException");
            return (float) on.size() / (float) stations.size();
        }

        double meanLevel() {
            refuse(on.isEmpty(), "ArithmeticException");
            int sum = 0;
            for (int station : on.keySet()) {
                sum += levelOf(station);
            }
            return (double) sum / (double) on.size();
        }

        long isSound() {
            return wasMoved || allKeep(on) ? 1 : 0;
        }
    }

    private interface Call {
        double answer();
    }

    private static int wrong;
    private static final TreeMap<String, Integer> seen = new TreeMap<>();

    private static String outcome(Call call) {
        try {
            return "" + call.answer();
        } catch (Refused e) {
            return e.getMessage();
        } catch (RuntimeException e) {
            return e.getClass().getSimpleName();
        }
    }

    private static void same(int run, int number, String name, Call model, Call program) {
        String want = outcome(model);
        String got = outcome(program);
        seen.merge(name + (want.endsWith("Exception") ? " " + want : " answers"), 1, Integer::sum);
        if (!want.equals(got) && wrong++ < 20) {
            System.out.println("run " + run + " call " + number + ": " + name + " answered " + got
                + ", the model says " + want);
        }
    }

    private static double bit(boolean is) {
        return is ? 1 : 0;
    }

    private final Random random;
    private final int run;
    private final int spread;
    private final boolean isRisky;
    // All in one place, with much room for moves.
    private final boolean isDense;
    private final Model m = new Model();
    private final Bandplan p = new Bandplan();
    private int number;

    private ModelTest(int run) {
        this.run = run;
        random = new Random(run);
        isDense = run % 3 == 0;
        spread = isDense ? 1 + random.nextInt(2) : 1 + random.nextInt(20);
        isRisky = random.nextInt(4) == 0;
    }

    private int pick(int least, int most) {
        if (isRisky && random.nextInt(25) == 0) {
            return random.nextBoolean() ? least - 1 - random.nextInt(3) : most + 1 + random.nextInt(3);
        }
        return least + random.nextInt(Math.max(most - least, 0) + 1);
    }

    private int station() {
        return pick(0, m.stations.size() - 1);
    }

    private int column() {
        return pick(20 - spread, 19);
    }

    private void check(String name, Call model, Call program) {
        same(run, number, name, model, program);
    }

    private void addSite() {
        int c = column();
        int r = column();
        int h = pick(0, 99);
        check("addSite", () -> m.addSite(c, r, h), () -> p.addSite(c, r, h));
    }

    private void addStation() {
        int a = pick(0, m.sites.size() - 1);
        int b = pick(0, m.sites.size() - 1);
        int power = isDense ? pick(390, 410) : pick(random.nextInt(2) * 300, 500);
        boolean is = random.nextInt(isDense ? 8 : 4) > 0;
        check("addStation", () -> m.addStation(a, b, power, is), () -> p.addStation(a, b, power, is));
    }

    private void land(int kind) {
        int a = column();
        int b = column();
        int v = pick(0, 99);
        int one = pick(0, m.sites.size() - 1);
        int two = pick(0, m.sites.size() - 1);
        int ratio = pick(0, 500);
        switch (kind) {
            case 0 -> check("setGround", () -> m.setGround(a, b, v), () -> p.setGround(a, b, v));
            case 1 -> check("setRatio", () -> m.setRatio(ratio), () -> p.setRatio(ratio));
            default -> check("loss", () -> m.loss(one, two), () -> p.loss(one, two));
        }
    }

    private void look() {
        int s = station();
        int t = station();
        int c = pick(0, 7);
        int d = pick(0, 7);
        int day = pick(0, m.today());
        check("level", () -> m.level(s), () -> p.level(s));
        check("harm", () -> m.harm(s), () -> p.harm(s));
        check("keeps", () -> m.keeps(s), () -> bit(p.keeps(s)));
        check("bars", () -> m.bars(s, c, t, d), () -> bit(p.bars(s, c, t, d)));
        check("channelOf", () -> m.channelOf(s, day), () -> p.channelOf(s, day));
        check("priceOf", () -> m.priceOf(s), () -> p.priceOf(s));
        check("phaseOf", () -> m.phaseOf(s), () -> p.phaseOf(s));
        check("onShare", m::onShare, p::onShare);
        check("meanLevel", m::meanLevel, p::meanLevel);
        check("isSound", m::isSound, () -> bit(p.isSound()));
        check("rounds", () -> m.rounds, p::rounds);
        check("dark", () -> m.dark, p::dark);
        number += 12;
    }

    private void change(int kind) {
        int s = station();
        int c = pick(0, random.nextBoolean() ? 7 : 3);
        boolean is = random.nextInt(3) > 0;
        int days = pick(1, random.nextInt(4) == 0 ? 99 : 3);
        switch (kind) {
            case 0 -> check("putOff", () -> m.putOff(s), () -> p.putOff(s));
            case 1 -> check("setForeign", () -> m.setForeign(c, is), () -> bit(p.setForeign(c, is)));
            case 2, 3 -> check("askAbroad", () -> m.askAbroad(s, c), () -> p.askAbroad(s, c));
            case 4 -> check("object", () -> m.object(s, c), () -> bit(p.object(s, c)));
            case 5 -> check("hasYes", () -> m.hasYes(s, c), () -> bit(p.hasYes(s, c)));
            case 6 -> check("goOn", () -> m.goOn(days), () -> p.goOn(days));
            default -> check("putOn", () -> m.putOn(s, c), () -> p.putOn(s, c));
        }
    }

    private void auction(int kind) {
        int s = station();
        int channels = pick(1, 8);
        int price = random.nextInt(3) == 0 ? pick(1, isDense ? 50 : 9999) : pick(1, 300);
        int asked = random.nextInt(3) == 0 ? pick(0, 9999) : pick(0, 300);
        int step = price > 300 ? pick(50, 999) : pick(1, 120);
        int crews = pick(1, 4);
        switch (kind) {
            case 0 -> check("canPack", () -> m.canPack(channels), () -> bit(p.canPack(channels)));
            case 1 -> check("packed", () -> m.packed(channels, s), () -> p.packed(channels, s));
            case 2, 3, 4 -> check("setAsked", () -> m.setAsked(s, asked), () -> p.setAsked(s, asked));
            case 5 -> check("sell", () -> m.sell(price, step, channels), () -> p.sell(price, step, channels));
            default -> check("move", () -> m.move(crews), () -> p.move(crews));
        }
        for (int i = 0; kind >= 5 && i < m.stations.size(); i++) {
            int t = i;
            check("priceOf", () -> m.priceOf(t), () -> p.priceOf(t));
            check("phaseOf", () -> m.phaseOf(t), () -> p.phaseOf(t));
            check("channelOf", () -> m.channelOf(t, m.today()), () -> p.channelOf(t, m.today()));
            number += 3;
        }
    }

    private void buying(int kind) {
        int first = pick(0, 60);
        int second = pick(0, first);
        int third = pick(0, second);
        int channels = pick(0, 8);
        int bidder = pick(0, m.bidders.size() - 1);
        switch (kind) {
            case 0 -> check("addBidder", () -> m.addBidder(first, second, third),
                () -> p.addBidder(first, second, third));
            case 1 -> check("buy", () -> m.buy(channels), () -> p.buy(channels));
            default -> {
                check("bought", () -> m.bought(bidder), () -> p.bought(bidder));
                check("pays", () -> m.pays(bidder), () -> p.pays(bidder));
                number++;
            }
        }
    }

    private void play() {
        int sites = 2 + random.nextInt(9);
        int stations = random.nextInt(9);
        while (number < CALLS - 40) {
            number++;
            int kind = random.nextInt(40);
            if (m.sites.size() < sites || kind == 0) {
                addSite();
            } else if (m.stations.size() < stations || kind == 1) {
                addStation();
            } else if (kind < 5) {
                land(random.nextInt(3));
            } else if (kind < 8) {
                look();
            } else if (kind < 30) {
                change(random.nextInt(15));
            } else if (kind < 37) {
                auction(random.nextInt(7));
            } else {
                buying(random.nextInt(4));
            }
        }
    }

    public static void main(String[] args) {
        int runs = args.length > 0 ? Integer.parseInt(args[0]) : RUNS;
        for (int run = 0; run < runs; run++) {
            new ModelTest(run).play();
        }
        if (args.length > 0) {
            seen.forEach((name, count) -> System.out.println(name + ": " + count));
        }
        System.out.println(wrong == 0 ? "the model agrees" : wrong + " answers differ from the model");
        if (wrong != 0) {
            System.exit(1);
        }
    }
}
