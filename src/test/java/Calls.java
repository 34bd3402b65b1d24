import com.sun.source.tree.ExpressionTree;
import java.util.ArrayList;
import java.util.HashMap;
import java.util.LinkedHashMap;
import java.util.LinkedHashSet;
import java.util.List;
import java.util.Map;
import java.util.Set;
import javax.lang.model.element.ExecutableElement;
import javax.lang.model.element.Modifier;

/** Who calls whom in the class: rules 8 (recursion) and 11 (how deep calls go). */
final class Calls {
    private static final int MOST_DEEP = 8;

    private final Map<ExecutableElement, Set<ExecutableElement>> of = new LinkedHashMap<>();
    /** The arguments of each call, by caller and called one. */
    private final Map<List<ExecutableElement>, List<List<? extends ExpressionTree>>> with = new HashMap<>();
    private final Map<ExecutableElement, Integer> deep = new HashMap<>();

    void made(ExecutableElement method) {
        of.computeIfAbsent(method, m -> new LinkedHashSet<>());
    }

    void calls(ExecutableElement caller, ExecutableElement called, List<? extends ExpressionTree> arguments) {
        made(called);
        // A field's first value is called for by whoever makes the object.
        if (caller == null) return;
        made(caller);
        of.get(caller).add(called);
        with.computeIfAbsent(List.of(caller, called), pair -> new ArrayList<>()).add(arguments);
    }

    List<String> broken() {
        List<String> broken = new ArrayList<>();
        for (ExecutableElement m : of.keySet()) {
            if (deepBelow(m) > MOST_DEEP) broken.add("rule 11, calls go " + deepBelow(m) + " deep from " + m);
            if (!reached(m).contains(m)) continue;
            if (!m.getModifiers().contains(Modifier.PRIVATE)) broken.add("rule 8, " + m + " calls itself and isn't private");
            for (ExecutableElement next : of.get(m)) {
                if (reached(next).contains(m) && !carriesDepth(m, next)) broken.add("rule 8, no depth from " + m + " to " + next);
            }
        }
        return broken;
    }

    /** Whom it calls, and whom these call. */
    private Set<ExecutableElement> reached(ExecutableElement from) {
        Set<ExecutableElement> all = new LinkedHashSet<>(of.get(from));
        List<ExecutableElement> open = new ArrayList<>(all);
        while (!open.isEmpty()) {
            for (ExecutableElement next : of.get(open.remove(open.size() - 1))) {
                if (all.add(next)) open.add(next);
            }
        }
        return all;
    }

    /** Each call in a recursion gives on the depth that the caller was given, or 1 more. */
    private boolean carriesDepth(ExecutableElement caller, ExecutableElement called) {
        return with.get(List.of(caller, called)).stream().allMatch(arguments ->
                arguments.stream().anyMatch(a -> a.toString().matches("open( \\+ 1)?")));
    }

    private int deepBelow(ExecutableElement m) {
        Integer known = deep.get(m);
        if (known != null) return known;
        int most = 0;
        for (ExecutableElement next : of.get(m)) {
            // Those that call one another are recursion, which has a bound of its own.
            if (!reached(next).contains(m)) most = Math.max(most, deepBelow(next));
        }
        for (ExecutableElement fellow : reached(m)) {
            if (fellow == m || !reached(fellow).contains(m)) continue;
            for (ExecutableElement next : of.get(fellow)) {
                if (!reached(next).contains(m)) most = Math.max(most, deepBelow(next));
            }
        }
        deep.put(m, most + 1);
        return most + 1;
    }
}
