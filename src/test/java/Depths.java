import java.util.HashMap;
import java.util.HashSet;
import java.util.Map;
import java.util.Set;

/** How deep calls go in one another; methods that call one another in a ring (recursion) are one. */
final class Depths {
    private final Map<String, Set<String>> calls;
    private final Map<String, Set<String>> reached = new HashMap<>();
    private final Map<String, String> longest = new HashMap<>();

    Depths(Map<String, Set<String>> calls) {
        this.calls = calls;
        for (String name : calls.keySet()) {
            Set<String> all = new HashSet<>();
            for (String next : calls.get(name)) reach(next, all);
            reached.put(name, all);
        }
    }

    private void reach(String name, Set<String> all) {
        if (!all.add(name)) return;
        for (String next : calls.getOrDefault(name, Set.of())) reach(next, all);
    }

    private boolean isRing(String one, String other) {
        return one.equals(other) || reached.get(one).contains(other) && reached.get(other).contains(one);
    }

    /** The longest row of calls from a method on, as names with > between. */
    String deepest(String name) {
        String known = longest.get(name);
        if (known != null) return known;
        String best = "";
        for (String member : calls.keySet()) {
            if (!isRing(name, member)) continue;
            for (String next : calls.get(member)) {
                if (isRing(name, next)) continue;
                String row = deepest(next);
                if (row.split(" > ").length > best.split(" > ").length || best.isEmpty()) best = row;
            }
        }
        String all = best.isEmpty() ? name : name + " > " + best;
        longest.put(name, all);
        return all;
    }
}
