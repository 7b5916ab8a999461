import java.util.ArrayList;
import java.util.HashMap;
import java.util.List;
import java.util.Map;
import java.util.Set;
import java.util.TreeMap;
import java.util.TreeSet;

/** Which method of the class calls which. */
final class CallGraph {
    private final Map<String, Set<String>> called = new TreeMap<>();

    void add(String caller, String callee) {
        called.computeIfAbsent(caller, name -> new TreeSet<>()).add(callee);
    }

    /** The methods that can come to call themselves. */
    Set<String> recursive() {
        Set<String> found = new TreeSet<>();
        for (String method : called.keySet()) {
            if (reached(method).contains(method)) {
                found.add(method);
            }
        }
        return found;
    }

    private Set<String> reached(String method) {
        Set<String> found = new TreeSet<>();
        List<String> open = new ArrayList<>(called.getOrDefault(method, Set.of()));
        while (!open.isEmpty()) {
            String next = open.remove(open.size() - 1);
            if (found.add(next)) {
                open.addAll(called.getOrDefault(next, Set.of()));
            }
        }
        return found;
    }

    /** Its first method is called from outside; a recursive method is not followed further. */
    List<String> longestChain() {
        List<String> longest = List.of();
        Map<String, List<String>> known = new HashMap<>();
        for (String method : called.keySet()) {
            List<String> chain = chainFrom(method, known);
            longest = chain.size() > longest.size() ? chain : longest;
        }
        return longest;
    }

    private List<String> chainFrom(String method, Map<String, List<String>> known) {
        if (known.containsKey(method)) {
            return known.get(method);
        }
        known.put(method, List.of(method));
        List<String> longest = List.of();
        for (String callee : called.getOrDefault(method, Set.of())) {
            List<String> chain = chainFrom(callee, known);
            longest = chain.size() > longest.size() ? chain : longest;
        }
        List<String> chain = new ArrayList<>(List.of(method));
        chain.addAll(longest);
        known.put(method, chain);
        return chain;
    }
}
