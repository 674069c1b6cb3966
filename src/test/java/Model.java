import java.util.ArrayList;
import java.util.Collections;
import java.util.Comparator;
import java.util.HashMap;
import java.util.HashSet;
import java.util.List;
import java.util.Map;
import java.util.Set;
import java.util.TreeMap;
import java.util.stream.Collectors;
import java.util.stream.IntStream;

/**
 * The document once more, written to be read beside it: it keeps what was told and nothing that
 * follows from that, and finds every answer anew.
 */
final class Model {
    private record Item(int kind, int minutes) {
    }

    private record At(int car, int item) {
    }

    private static final int NONE = -1;
    private static final int[] POINTS = {25, 18, 15, 12, 10, 8, 6, 4, 2, 1};

    private final List<List<Integer>> over = new ArrayList<>();
    private final List<Item> items = new ArrayList<>();
    private final Map<Integer, List<Integer>> orders = new TreeMap<>();
    private final Map<At, Integer> stamps = new HashMap<>();
    private final Map<At, Integer> delays = new HashMap<>();
    private final Map<At, Integer> beams = new HashMap<>();
    private final Map<At, Integer> hands = new HashMap<>();
    private final Map<At, Integer> awards = new HashMap<>();
    private final Set<At> held = new HashSet<>();
    private final Map<Integer, Set<Integer>> tyres = new HashMap<>();
    private final Map<Integer, Set<Integer>> strange = new HashMap<>();
    private final Map<Integer, Boolean> retired = new HashMap<>();

    String answer(Call call) {
        int[] a = call.args();
        switch (call.name()) {
            case "item": return item(a[0], a[1]);
            case "open": return open(a[0], a[1]);
            case "starts": return starts(a[0], a[1]);
            case "due": return due(a[0], a[1]);
            case "stamp": return stamp(a[0], a[1], a[2]);
            case "delay": return delay(a[0], a[1], a[2]);
            case "finish": return finish(a[0], a[1], a[2] == 1 ? beams : hands, a[3]);
            case "held": return held(a[0], a[1], a[2] == 1);
            case "award": return award(a[0], a[1], a[2]);
            case "time": return time(a[0], a[1]);
            case "allocate": return allocate(a[0], a[1]);
            case "seen": return seen(a[0], a[1]);
            case "retire": return retire(a[0], a[1] == 1);
            case "car": return car(a[0], a[1]);
            case "totalAnew": return isCar(a[0]) ? "" + total(a[0]) : index();
            case "ranked": return isIn(a[0], 0, 9) ? "" + at(ranked(), a[0]) : argument();
            case "close": return close();
            case "points": return isCar(a[0]) ? "" + sum(a[0]) : index();
            case "table": return isIn(a[0], 0, 9) ? "" + table().get(a[0]) : argument();
            default: throw new UnsupportedOperationException(call.name());
        }
    }

    // ---- the calls

    private String item(int kind, int minutes) {
        if (!isIn(kind, 0, 2) || !isIn(minutes, 0, kind == 2 ? 0 : 2000)) {
            return argument();
        }
        boolean isFirst = items.isEmpty();
        boolean isBehindStage = !isFirst && isStage(items.size() - 1);
        if (items.size() == 20 || isFirst && kind != 0 || isBehindStage && kind != 1 || !orders.isEmpty()) {
            return state();
        }
        items.add(new Item(kind, minutes));
        return "" + (items.size() - 1);
    }

    private String open(int item, int kind) {
        if (!isItem(item)) {
            return index();
        }
        if (!isIn(kind, 0, 2) || items.get(item).kind != 0) {
            return argument();
        }
        boolean isEarlierClosed = IntStream.range(0, item).anyMatch(i -> items.get(i).kind == 0 && !orders.containsKey(i));
        if (orders.containsKey(item) || isEarlierClosed) {
            return state();
        }
        List<Integer> order = item == 0 ? byRank(cars()) : ranked();
        if (kind == 0) {
            Collections.sort(order);
        } else if (kind == 2) {
            Collections.reverse(order.subList(0, Math.min(5, order.size())));
        }
        if (item != 0) {
            for (int car : cars()) {
                if (retired.getOrDefault(car, false) && !isOut(car) && stamps.containsKey(new At(car, 0))) {
                    retired.remove(car);
                    order.add(car);
                }
            }
        }
        orders.put(item, order);
        return "" + order.size();
    }

    private String starts(int item, int place) {
        if (!isItem(item)) {
            return index();
        }
        if (!isIn(place, 0, 9) || items.get(item).kind != 0) {
            return argument();
        }
        return "" + at(orders.getOrDefault(item, List.of()), place);
    }

    private String due(int car, int item) {
        if (!isCar(car) || !isItem(item)) {
            return index();
        }
        if (isStage(item)) {
            return argument();
        }
        return "" + (retired.containsKey(car) || isOut(car) ? NONE : dueByCard(car, item));
    }

    private String stamp(int car, int item, int minute) {
        if (!isCar(car) || !isItem(item)) {
            return index();
        }
        if (isStage(item) || !isIn(minute, 0, 2000)) {
            return argument();
        }
        if (due(car, item).equals("-1") || stamps.containsKey(new At(car, item))) {
            return state();
        }
        stamps.put(new At(car, item), minute);
        return "" + penalty(car, item);
    }

    private String delay(int item, int car, int minutes) {
        if (!isItem(item) || !isCar(car)) {
            return index();
        }
        if (items.get(item).kind != 1 || !isIn(minutes, 1, 60)) {
            return argument();
        }
        List<Integer> order = orders.getOrDefault(legOf(item), List.of());
        if (!order.contains(car)) {
            return state();
        }
        int count = 0;
        for (int one : order.subList(order.indexOf(car), order.size())) {
            if (!stamps.containsKey(new At(one, item))) {
                delays.merge(new At(one, item), minutes, Integer::sum);
                count++;
            }
        }
        return "" + count;
    }

    private String finish(int car, int item, Map<At, Integer> clock, int tenths) {
        if (!isCar(car) || !isItem(item)) {
            return index();
        }
        if (!isStage(item) || !isIn(tenths, 0, 2000000)) {
            return argument();
        }
        if (!hasStarted(car, item) || tenths < start(car, item)) {
            return state();
        }
        clock.put(new At(car, item), tenths);
        return "0";
    }

    private String held(int car, int item, boolean isHeld) {
        if (!isCar(car) || !isItem(item)) {
            return index();
        }
        if (!isStage(item)) {
            return argument();
        }
        if (!hasStarted(car, item)) {
            return state();
        }
        if (isHeld) {
            held.add(new At(car, item));
        } else {
            held.remove(new At(car, item));
        }
        return "" + timeOf(car, item);
    }

    private String award(int car, int item, int tenths) {
        if (!isCar(car) || !isItem(item)) {
            return index();
        }
        if (!isStage(item) || !isIn(tenths, -1, 99999)) {
            return argument();
        }
        if (!hasStarted(car, item)) {
            return state();
        }
        if (tenths == NONE) {
            awards.remove(new At(car, item));
        } else {
            awards.put(new At(car, item), tenths);
        }
        return "" + timeOf(car, item);
    }

    private String time(int car, int item) {
        if (!isCar(car) || !isItem(item)) {
            return index();
        }
        return isStage(item) ? "" + timeOf(car, item) : argument();
    }

    private String allocate(int car, int barcode) {
        if (!isCar(car)) {
            return index();
        }
        if (!isIn(barcode, 0, 99)) {
            return argument();
        }
        Set<Integer> its = tyres.computeIfAbsent(car, c -> new HashSet<>());
        if (its.size() == 6 || !its.add(barcode)) {
            return state();
        }
        return "" + its.size();
    }

    private String seen(int car, int barcode) {
        if (!isCar(car)) {
            return index();
        }
        if (!isIn(barcode, 0, 99)) {
            return argument();
        }
        boolean isIts = tyres.getOrDefault(car, Set.of()).contains(barcode);
        return isIts || !strange.computeIfAbsent(car, c -> new HashSet<>()).add(barcode) ? "0" : "600";
    }

    private String retire(int car, boolean again) {
        if (!isCar(car)) {
            return index();
        }
        if (retired.containsKey(car) || isOut(car)) {
            return state();
        }
        retired.put(car, again);
        return "0";
    }

    private String car(int car, int what) {
        if (!isCar(car)) {
            return index();
        }
        switch (what) {
            case 0: return "" + penalties(car);
            case 1: return "" + late(car);
            case 2: return isOut(car) ? "1" : "0";
            case 3: return retired.containsKey(car) ? "1" : "0";
            case 4: return "" + total(car);
            case 5: return "" + ranked().indexOf(car);
            default: return argument();
        }
    }

    private String close() {
        if (over.size() == 6 || orders.isEmpty()) {
            return state();
        }
        over.add(ranked());
        items.clear();
        orders.clear();
        List.of(stamps, delays, beams, hands, awards, tyres, strange, retired).forEach(Map::clear);
        held.clear();
        return "" + over.size();
    }

    // ---- what follows from what was told

    private int dueByCard(int car, int item) {
        if (items.get(item).kind == 0) {
            int place = orders.getOrDefault(item, List.of()).indexOf(car);
            return place < 0 ? NONE : items.get(item).minutes + 2 * place;
        }
        Integer stamp = stamps.get(new At(car, ahead(item)));
        if (stamp == null) {
            return NONE;
        }
        int stage = isStage(item - 1) ? 3 : 0;
        return stamp + stage + items.get(item).minutes + delays.getOrDefault(new At(car, item), 0);
    }

    private int penalty(int car, int item) {
        int over = stamps.get(new At(car, item)) - dueByCard(car, item);
        return over > 0 ? 100 * over : 600 * -over;
    }

    private int late(int car) {
        return stamped(car).map(i -> Math.max(0, stamps.get(new At(car, i)) - dueByCard(car, i))).sum();
    }

    private IntStream stamped(int car) {
        return IntStream.range(0, items.size()).filter(i -> stamps.containsKey(new At(car, i)));
    }

    private int penalties(int car) {
        return stamped(car).map(i -> penalty(car, i)).sum() + 600 * strange.getOrDefault(car, Set.of()).size();
    }

    private boolean isOut(int car) {
        return late(car) > 30;
    }

    private int start(int car, int stage) {
        return 600 * (stamps.get(new At(car, ahead(stage))) + 3);
    }

    private int own(int car, int stage) {
        At at = new At(car, stage);
        if (beams.containsKey(at)) {
            return beams.get(at) - start(car, stage);
        }
        if (!hands.containsKey(at)) {
            return NONE;
        }
        double mean = cars().stream().map(c -> new At(c, stage))
                .filter(c -> beams.containsKey(c) && hands.containsKey(c))
                .mapToInt(c -> beams.get(c) - hands.get(c)).average().orElse(0);
        return Math.max(0, hands.get(at) + (int) Math.floor(mean) - start(car, stage));
    }

    private int timeOf(int car, int stage) {
        At at = new At(car, stage);
        if (awards.containsKey(at)) {
            return awards.get(at);
        }
        if (!held.contains(at)) {
            return own(car, stage);
        }
        List<Integer> order = orders.get(legOf(stage));
        List<Integer> ahead = new ArrayList<>(order.subList(0, order.indexOf(car)));
        Collections.reverse(ahead);
        List<Integer> behind = order.subList(order.indexOf(car) + 1, order.size());
        List<Integer> next = new ArrayList<>();
        for (List<Integer> side : List.of(ahead, behind)) {
            side.stream().filter(c -> own(c, stage) != NONE && !held.contains(new At(c, stage)))
                    .findFirst().ifPresent(c -> next.add(own(c, stage)));
        }
        return next.isEmpty() ? NONE : next.stream().mapToInt(t -> t).sum() / next.size();
    }

    private List<Integer> stages() {
        return IntStream.range(0, items.size()).filter(this::isStage).boxed().collect(Collectors.toList());
    }

    private int total(int car) {
        int total = penalties(car);
        for (int stage : stages()) {
            int time = timeOf(car, stage);
            int best = cars().stream().mapToInt(c -> timeOf(c, stage)).filter(t -> t != NONE).min().orElse(-6000);
            total += time == NONE ? best + 6000 : time;
        }
        return total;
    }

    private List<Integer> ranked() {
        return byRank(cars().stream()
                .filter(c -> stamps.containsKey(new At(c, 0)) && !isOut(c) && !retired.containsKey(c)).toList());
    }

    private List<Integer> byRank(List<Integer> some) {
        Comparator<Integer> byRank = Comparator.comparingInt(this::total);
        for (int stage : stages()) {
            byRank = byRank.thenComparingLong(c -> timeOf(c, stage) & 0xffffffffL);
        }
        return some.stream().sorted(byRank.thenComparingInt(c -> c)).collect(Collectors.toList());
    }

    private int sum(int car) {
        List<Integer> points = over.stream()
                .map(r -> r.contains(car) ? POINTS[r.indexOf(car)] : 0).sorted().toList();
        return points.stream().skip(points.size() >= 3 ? 1 : 0).mapToInt(p -> p).sum();
    }

    private List<Integer> table() {
        Comparator<Integer> byTable = Comparator.comparingInt(c -> -sum(c));
        for (int n = 0; n < over.size(); n++) {
            int nth = n;
            byTable = byTable.thenComparingLong(
                    c -> over.stream().mapToLong(r -> r.indexOf(c) & 0xffffffffL).sorted().toArray()[nth]);
        }
        return cars().stream().sorted(byTable.thenComparingInt(c -> c)).toList();
    }

    // ---- small words

    private static List<Integer> cars() {
        return IntStream.range(0, 10).boxed().toList();
    }

    private static int at(List<Integer> cars, int place) {
        return place < cars.size() ? cars.get(place) : NONE;
    }

    private boolean isStage(int item) {
        return items.get(item).kind == 2;
    }

    private int ahead(int item) {
        return IntStream.range(0, item).filter(i -> !isStage(i)).max().orElseThrow();
    }

    private int legOf(int item) {
        return IntStream.rangeClosed(0, item).filter(i -> items.get(i).kind == 0).max().orElseThrow();
    }

    private boolean hasStarted(int car, int stage) {
        return stamps.containsKey(new At(car, ahead(stage)));
    }

    private static boolean isIn(int value, int least, int most) {
        return value >= least && value <= most;
    }

    private static boolean isCar(int car) {
        return isIn(car, 0, 9);
    }

    private boolean isItem(int item) {
        return isIn(item, 0, items.size() - 1);
    }

    private static String index() {
        return "IndexOutOfBoundsException";
    }

    private static String argument() {
        return "IllegalArgumentException";
    }

    private static String state() {
        return "IllegalStateException";
    }
}
