import java.util.ArrayList;
import java.util.List;
import java.util.NoSuchElementException;
import java.util.TreeMap;

/** The document's words, as plainly as they can be put; called by name. */
final class Model {
    final List<Integer> row = new ArrayList<>();
    final List<Integer> tree = new ArrayList<>();
    final List<Integer> groups = new ArrayList<>();

    public int add(int a, int b, int c) {
        if (row.size() + 3 > 4000) {
            throw new IllegalStateException();
        }
        row.addAll(List.of(a & 511, b & 511, c & 511));
        return row.size();
    }

    public int cut(int n) {
        need(n >= 0 && n <= row.size());
        row.subList(n, row.size()).clear();
        return n;
    }

    public int build() {
        tree.clear();
        tree.addAll(row);
        return tree.size();
    }

    public int at(int place) {
        return pick(tree, place);
    }

    public int often(int number, int from, int to) {
        need(number >= 0 && number <= 511);
        return (int) part(from, to).stream().filter(n -> n == number).count();
    }

    public int place(int number, int k) {
        need(number >= 0 && number <= 511);
        List<Integer> places = new ArrayList<>();
        for (int i = 0; i < tree.size(); i++) {
            if (tree.get(i) == number) {
                places.add(i);
            }
        }
        return pick(places, k);
    }

    public int least(int from, int to, int k) {
        return pick(part(from, to).stream().sorted().toList(), k);
    }

    public int below(int number, int from, int to) {
        need(number >= 0 && number <= 512);
        return (int) part(from, to).stream().filter(n -> n < number).count();
    }

    public int different(int from, int to) {
        TreeMap<Integer, Integer> times = times(from, to);
        groups.clear();
        times.forEach((number, often) -> groups.add(number * 4096 + often));
        return groups.size();
    }

    public int number(int i) {
        return pick(groups, i);
    }

    public int before(int number, int from, int to) {
        need(number >= 0 && number <= 511);
        return part(from, to).stream().filter(n -> n <= number).reduce(-1, Math::max);
    }

    public int most(int from, int to) {
        int best = -1;
        TreeMap<Integer, Integer> times = times(from, to);
        for (int number : times.keySet()) {
            if (best == -1 || times.get(number) > times.get(best)) {
                best = number;
            }
        }
        return best;
    }

    public int count(int what) {
        return what == 0 ? row.size() : what == 1 ? tree.size() : -1;
    }

    private TreeMap<Integer, Integer> times(int from, int to) {
        TreeMap<Integer, Integer> times = new TreeMap<>();
        part(from, to).forEach(number -> times.merge(number, 1, Integer::sum));
        return times;
    }

    private List<Integer> part(int from, int to) {
        need(0 <= from && from <= to && to <= tree.size());
        return tree.subList(from, to);
    }

    private static int pick(List<Integer> list, int i) {
        if (i < 0 || i >= list.size()) {
            throw new NoSuchElementException();
        }
        return list.get(i);
    }

    private static void need(boolean holds) {
        if (!holds) {
            throw new IllegalArgumentException();
        }
    }
}
