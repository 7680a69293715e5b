import java.util.ArrayDeque;
import java.util.ArrayList;
import java.util.Deque;
import java.util.List;
import java.util.Map;
import java.util.Random;
import java.util.TreeMap;
import java.util.TreeSet;

/**
 * Random runs of calls on NameKeeper and on a model of the document that is written another way:
 * texts instead of packed names, holds counted anew each time, whole copies for undo and questions.
 */
public final class ModelTest {
    static final int NONE = -1;
    static final int NOTHING = -2;
    static final int BLOCKED = -3;
    static final int MOST_CALLS = 512;

    public static void main(String[] args) {
        int runs = args.length > 0 ? Integer.parseInt(args[0]) : 5000;
        for (int run = 0; run < runs; run++) {
            String wrong = new Run(run).go();
            if (wrong != null) {
                System.out.println("run " + run + ": " + wrong);
                System.exit(1);
            }
        }
        System.out.println(runs + " random runs answer as the model does");
    }

    // ------------------------------------------------------------------ the model

    static final class Node {
        int volume, folder, parent;
        String name;
        boolean there = true;

        Node copy() {
            Node n = new Node();
            n.volume = volume; n.folder = folder; n.parent = parent; n.name = name; n.there = there;
            return n;
        }
    }

    static final class Entry {
        int parent, node, count, use, birth;
        String name;
        boolean gone;

        Entry copy() {
            Entry e = new Entry();
            e.parent = parent; e.node = node; e.count = count; e.use = use; e.birth = birth; e.name = name; e.gone = gone;
            return e;
        }
    }

    static final class Walker {
        List<String> steps;
        boolean heavy;
        int restarts, done;
        List<int[]> way = new ArrayList<>();

        Walker copy() {
            Walker w = new Walker();
            w.steps = steps; w.heavy = heavy; w.restarts = restarts; w.done = done; w.way = new ArrayList<>(way);
            return w;
        }
    }

    static final class State {
        List<Node> nodes = new ArrayList<>();
        int volumes;
        int[] rootNode = {NONE, NONE, NONE};
        TreeMap<Integer, Entry> entries = new TreeMap<>();
        int[] root = {NONE, NONE, NONE};
        int[] over = {NONE, NONE, NONE};
        int room, tick, loaded, trimmed;
        TreeMap<Integer, Integer> handles = new TreeMap<>();
        TreeMap<Integer, Walker> walkers = new TreeMap<>();
        int extra = NONE;

        State copy() {
            State s = new State();
            for (Node n : nodes) s.nodes.add(n.copy());
            s.volumes = volumes;
            s.rootNode = rootNode.clone();
            for (Map.Entry<Integer, Entry> e : entries.entrySet()) s.entries.put(e.getKey(), e.getValue().copy());
            s.root = root.clone();
            s.over = over.clone();
            s.room = room; s.tick = tick; s.loaded = loaded; s.trimmed = trimmed;
            s.handles.putAll(handles);
            for (Map.Entry<Integer, Walker> w : walkers.entrySet()) s.walkers.put(w.getKey(), w.getValue().copy());
            return s;
        }

        boolean node(int n) { return n >= 0 && n < nodes.size() && nodes.get(n).there; }

        int nodeIn(int folder, String name) {
            for (int n = 0; n < nodes.size(); n++) {
                if (nodes.get(n).there && nodes.get(n).parent == folder && nodes.get(n).name.equals(name)) return n;
            }
            return NONE;
        }

        int inside(int folder) {
            int sum = 0;
            for (Node n : nodes) if (n.there && n.parent == folder) sum++;
            return sum;
        }

        boolean isRoot(int e) { return root[0] == e || root[1] == e || root[2] == e; }

        int coverOf(int e) {
            for (int v = 0; v < 3; v++) if (over[v] == e) return v;
            return NONE;
        }

        int heldOtherwise(int e) {
            int sum = e == extra ? 1 : 0;
            for (int h : handles.values()) if (h == e) sum++;
            for (Walker w : walkers.values()) if (w.heavy) for (int[] x : w.way) if (x[0] == e) sum++;
            for (int v = 0; v < 3; v++) if (over[v] == e) sum++;
            return sum;
        }

        int held(int e) {
            int sum = heldOtherwise(e);
            for (Entry x : entries.values()) if (x.parent == e) sum++;
            return sum;
        }

        boolean free(int e) { return !isRoot(e) && held(e) == 0; }

        int newEntry(int parent, String name, int node) {
            int k = 0;
            while (entries.containsKey(k)) k++;
            Entry e = new Entry();
            e.parent = parent; e.name = name; e.node = node;
            e.birth = tick; e.use = tick++;
            entries.put(k, e);
            return k;
        }

        void come(int e) { entries.get(e).use = tick++; }

        int victim(int spared) {
            int best = NONE;
            for (int e : entries.keySet()) {
                if (e != spared && free(e) && (best == NONE || entries.get(e).use < entries.get(best).use)) best = e;
            }
            return best;
        }

        int find(int parent, String name) {
            for (Map.Entry<Integer, Entry> e : entries.entrySet()) {
                if (e.getValue().parent == parent && !e.getValue().gone && e.getValue().name.equals(name) && !isRoot(e.getKey())) return e.getKey();
            }
            return NONE;
        }

        int countedEntries() {
            int sum = 0;
            for (int e : entries.keySet()) if (!isRoot(e)) sum++;
            return sum;
        }

        int child(int parent, String name) {
            int e = find(parent, name);
            if (e != NONE) { come(e); return e; }
            e = newEntry(parent, name, nodeIn(entries.get(parent).node, name));
            loaded++;
            while (countedEntries() > room) {
                int v = victim(e);
                if (v == NONE) break;
                entries.remove(v);
                trimmed++;
            }
            return e;
        }

        boolean folder(int e) { return nodes.get(entries.get(e).node).folder == 1; }

        /** One step; appends what it came to. */
        int step(int at, String step, List<Integer> came) {
            if (step.equals(".")) return at;
            if (step.equals("..")) {
                if (at == root[0]) return at;
                int from = at;
                if (isRoot(at)) {
                    int v = at == root[1] ? 1 : 2;
                    from = over[v];
                    come(from);
                    came.add(from);
                }
                int up = entries.get(from).parent;
                come(up);
                came.add(up);
                return up;
            }
            if (!folder(at)) return BLOCKED;
            int c = child(at, step);
            came.add(c);
            if (entries.get(c).node == NONE) return NOTHING;
            int v = coverOf(c);
            if (v == NONE) return c;
            come(root[v]);
            came.add(root[v]);
            return root[v];
        }

        int walk(List<String> steps) {
            come(root[0]);
            int at = root[0];
            for (String s : steps) {
                at = step(at, s, new ArrayList<>());
                if (at < 0) return at;
            }
            return at;
        }

        /** By the nodes alone. */
        int where(List<String> steps) {
            int at = rootNode[0];
            for (String s : steps) {
                if (s.equals(".")) continue;
                if (s.equals("..")) {
                    if (at == rootNode[0]) continue;
                    if (nodes.get(at).parent == NONE) at = entries.get(over[nodes.get(at).volume]).node;
                    at = nodes.get(at).parent;
                    continue;
                }
                if (nodes.get(at).folder == 0) return BLOCKED;
                int c = nodeIn(at, s);
                if (c == NONE) return NOTHING;
                for (int v = 1; v < 3; v++) if (over[v] != NONE && entries.get(over[v]).node == c) { c = rootNode[v]; break; }
                at = c;
            }
            return at;
        }

        /** GONE entries that nothing holds go. */
        void sweep() {
            for (int e : new TreeSet<>(entries.keySet())) if (entries.get(e).gone && held(e) == 0) entries.remove(e);
        }

        List<String> namesTo(int node) {
            ArrayDeque<String> names = new ArrayDeque<>();
            int at = node;
            while (at != rootNode[0]) {
                if (nodes.get(at).parent == NONE) at = entries.get(over[nodes.get(at).volume]).node;
                else { names.addFirst(nodes.get(at).name); at = nodes.get(at).parent; }
            }
            return new ArrayList<>(names);
        }

        int volumeOf(Entry e) {
            return nodes.get(e.node == NONE ? entries.get(e.parent).node : e.node).volume;
        }
    }

    static final class Fault extends RuntimeException {
        private static final long serialVersionUID = 1;
        final int kind, place;
        Fault(int kind, int place) { this.kind = kind; this.place = place; }
    }

    static final class TreeText {
        final String text;
        int pos;
        State into = new State();

        TreeText(String text) { this.text = text; }

        char now() { return pos < text.length() ? text.charAt(pos) : 0xffff; }

        void blanks() { while (now() == ' ' || now() == '\n') pos++; }

        boolean letter() { return now() >= 'a' && now() <= 'z'; }

        State read() {
            blanks();
            while (pos < text.length() || into.volumes == 0) {
                if (into.volumes == 3) throw new Fault(5, pos);
                if (!letter() && now() != ';') throw new Fault(1, pos);
                into.rootNode[into.volumes] = begin(into.volumes, NONE, "");
                into.nodes.get(into.rootNode[into.volumes]).folder = 1;
                into.volumes++;
                items(into.rootNode[into.volumes - 1], 0);
                if (now() != ';') throw new Fault(1, pos);
                pos++;
                blanks();
            }
            return into;
        }

        int begin(int volume, int parent, String name) {
            if (into.nodes.size() == 40) throw new Fault(5, pos);
            Node n = new Node();
            n.volume = volume; n.parent = parent; n.name = name;
            into.nodes.add(n);
            return into.nodes.size() - 1;
        }

        void items(int folder, int depth) {
            blanks();
            while (letter()) {
                int n = begin(into.volumes - 1, folder, "");
                int start = pos;
                while (letter()) {
                    if (pos - start == 4) throw new Fault(1, pos);
                    pos++;
                }
                String name = text.substring(start, pos);
                if (into.nodeIn(folder, name) != NONE) throw new Fault(3, start);
                into.nodes.get(n).name = name;
                blanks();
                if (now() == '{') {
                    if (depth == 8) throw new Fault(5, pos);
                    into.nodes.get(n).folder = 1;
                    pos++;
                    items(n, depth + 1);
                    if (now() != '}') throw new Fault(1, pos);
                    pos++;
                }
                blanks();
            }
        }
    }

    static final class Model {
        State s = new State();
        Deque<State> past = new ArrayDeque<>();
        int fault = 0, place = NONE;
        int[] refused = new int[6];
        int[] result;
        List<List<String>> trace = new ArrayList<>();
        int seen = NONE;
        long seed = 1;
        String written = "";

        int refuse(int k) { refused[k]++; return NONE; }

        void keep() {
            past.addLast(s.copy());
            if (past.size() > 20) past.removeFirst();
        }

        static List<String> parse(String text) {
            if (text.equals("/")) return new ArrayList<>();
            if (!text.matches("(/([a-z]{1,4}|\\.|\\.\\.)){1,12}")) return null;
            return List.of(text.substring(1).split("/"));
        }

        List<List<String>> paths(String text, int least, int most) {
            List<List<String>> row = new ArrayList<>();
            for (String p : text.split(" ", -1)) {
                List<String> steps = parse(p);
                if (steps == null) return null;
                row.add(steps);
            }
            return s.volumes == 0 || row.size() < least || row.size() > most ? null : row;
        }

        List<String> path(String text) {
            List<List<String>> row = paths(text, 1, 1);
            return row == null ? null : row.get(0);
        }

        int trees(String text) {
            try {
                s = new TreeText(text).read();
            } catch (Fault f) {
                fault = f.kind;
                place = f.place;
                return refuse(1);
            }
            fault = 0;
            place = NONE;
            s.room = 40;
            s.root[0] = s.newEntry(NONE, "", s.rootNode[0]);
            past.clear();
            result = null;
            trace = new ArrayList<>();
            seen = NONE;
            return s.volumes;
        }

        int has(int what) {
            int absences = 0, free = 0, gone = 0, there = 0, bits = 0;
            for (Map.Entry<Integer, Entry> e : s.entries.entrySet()) {
                if (e.getValue().node == NONE) absences++;
                if (s.free(e.getKey())) free++;
                if (e.getValue().gone) gone++;
            }
            for (Node n : s.nodes) if (n.there) there++;
            for (int v = 0; v < 3; v++) if (s.root[v] != NONE) bits += 1 << v;
            int[] all = {s.volumes, there, s.entries.size(), absences, free, s.room, s.tick, s.loaded, s.trimmed,
                s.handles.size(), s.walkers.size(), bits, trace.size(), seen, past.size(), gone};
            return what >= 0 && what < all.length ? all[what] : NONE;
        }

        int node(int n, int what) {
            if (!s.node(n)) return NONE;
            Node x = s.nodes.get(n);
            int[] all = {x.volume, x.folder, x.parent, s.inside(n)};
            return what >= 0 && what < 4 ? all[what] : NONE;
        }

        int entry(int e, int what) {
            Entry x = s.entries.get(e);
            if (x == null) return NONE;
            int[] all = {x.parent, x.node, s.held(e), x.count, x.use, x.birth, s.coverOf(e), x.gone ? 1 : 0};
            return what >= 0 && what < 8 ? all[what] : NONE;
        }

        int letter(boolean entry, int which, int k) {
            String name = entry ? s.entries.containsKey(which) ? s.entries.get(which).name : null
                : s.node(which) ? s.nodes.get(which).name : null;
            if (name == null || k < 0 || k > 3) return NONE;
            return k < name.length() ? name.charAt(k) - 'a' + 1 : 0;
        }

        int child(String text, int parent) {
            if (!text.matches("[a-z]{1,4}") || !s.entries.containsKey(parent)) return NONE;
            return s.find(parent, text);
        }

        int walker(int k, int what) {
            Walker w = s.walkers.get(k);
            if (w == null) return NONE;
            int[] all = {w.heavy ? 1 : 0, w.restarts, w.done, w.steps.size(), w.way.size(), w.way.get(w.way.size() - 1)[0]};
            return what >= 0 && what < 6 ? all[what] : NONE;
        }

        int handle(int k) { return s.handles.getOrDefault(k, NONE); }

        int where(String text) {
            List<String> p = path(text);
            return p == null ? NONE : s.where(p);
        }

        int needs(String text) {
            List<String> p = path(text);
            if (p == null) return NONE;
            State t = s.copy();
            t.walk(p);
            return t.loaded - s.loaded;
        }

        int victim(int k) {
            if (s.volumes == 0) return NONE;
            State t = s.copy();
            List<Integer> order = new ArrayList<>();
            for (int v = t.victim(NONE); v != NONE; v = t.victim(NONE)) { order.add(v); t.entries.remove(v); }
            return k == NONE ? order.size() : k >= 0 && k < order.size() ? order.get(k) : NONE;
        }

        int path(int handle) {
            if (!s.handles.containsKey(handle)) return NONE;
            Entry e = s.entries.get(s.handles.get(handle));
            written = e.gone ? "" : "/" + String.join("/", s.namesTo(e.node));
            return written.length();
        }

        int octet(int k) { return k >= 0 && k < written.length() ? written.charAt(k) : NONE; }

        int look(String text) {
            List<String> p = path(text);
            if (p == null) return refuse(2);
            keep();
            return s.walk(p);
        }

        int placeFor(List<String> p) {
            int at = s.walk(p.subList(0, Math.max(0, p.size() - 1)));
            return at < 0 || !s.folder(at) ? NONE : at;
        }

        int gap(int folder, List<String> p) {
            if (p.isEmpty() || p.get(p.size() - 1).startsWith(".")) return NONE;
            int c = s.child(folder, p.get(p.size() - 1));
            return s.entries.get(c).node == NONE ? c : NONE;
        }

        int make(String text, boolean folder) {
            List<String> p = path(text);
            if (p == null || s.nodes.size() == 60) return refuse(3);
            keep();
            int parent = placeFor(p);
            int g = parent == NONE ? NONE : gap(parent, p);
            if (g == NONE) return refuse(3);
            Node n = new Node();
            n.parent = s.entries.get(parent).node;
            n.volume = s.nodes.get(n.parent).volume;
            n.folder = folder ? 1 : 0;
            n.name = p.get(p.size() - 1);
            s.nodes.add(n);
            s.entries.get(g).node = s.nodes.size() - 1;
            s.entries.get(g).count++;
            return s.nodes.size() - 1;
        }

        boolean changeable(int e) { return e >= 0 && !s.isRoot(e) && s.coverOf(e) == NONE; }

        int remove(String text) {
            List<String> p = path(text);
            if (p == null) return refuse(3);
            keep();
            int at = s.walk(p);
            if (!changeable(at) || s.inside(s.entries.get(at).node) > 0) return refuse(3);
            Entry e = s.entries.get(at);
            int n = e.node;
            s.nodes.get(n).there = false;
            e.count++;
            s.entries.values().removeIf(x -> x.parent == at);
            if (s.held(at) == 0) {
                e.node = NONE;
            } else {
                e.gone = true;
                e.parent = NONE;
            }
            return n;
        }

        int rename(String text) {
            List<List<String>> row = paths(text, 2, 2);
            if (row == null) return refuse(3);
            keep();
            int at = s.walk(row.get(0));
            if (!changeable(at)) return refuse(3);
            s.extra = at;
            int parent = placeFor(row.get(1));
            boolean can = parent != NONE
                && s.nodes.get(s.entries.get(parent).node).volume == s.nodes.get(s.entries.get(at).node).volume;
            for (int up = parent; can && up != NONE; up = s.entries.get(up).parent) can = up != at;
            int g = can ? gap(parent, row.get(1)) : NONE;
            s.extra = NONE;
            if (g == NONE) return refuse(3);
            s.entries.remove(g);
            Entry e = s.entries.get(at);
            e.parent = parent;
            e.name = row.get(1).get(row.get(1).size() - 1);
            e.count++;
            s.nodes.get(e.node).parent = s.entries.get(parent).node;
            s.nodes.get(e.node).name = e.name;
            return at;
        }

        int open(String text) {
            List<String> p = path(text);
            if (p == null || s.handles.size() == 6) return refuse(4);
            keep();
            int at = s.walk(p);
            if (at < 0) return refuse(4);
            int k = 0;
            while (s.handles.containsKey(k)) k++;
            s.handles.put(k, at);
            return k;
        }

        int close(int k) {
            if (!s.handles.containsKey(k)) { refuse(4); return 0; }
            keep();
            s.handles.remove(k);
            s.sweep();
            return 1;
        }

        int mount(String text, int v) {
            List<String> p = path(text);
            if (p == null || v < 0 || v >= s.volumes || s.root[v] != NONE) return refuse(3);
            keep();
            int at = s.walk(p);
            if (!changeable(at) || !s.folder(at)) return refuse(3);
            s.over[v] = at;
            s.entries.get(at).count++;
            s.root[v] = s.newEntry(NONE, "", s.rootNode[v]);
            return s.root[v];
        }

        int unmount(int v) {
            if (v < 1 || v > 2 || s.root[v] == NONE) return refuse(3);
            List<Integer> its = new ArrayList<>();
            for (Map.Entry<Integer, Entry> e : s.entries.entrySet()) if (s.volumeOf(e.getValue()) == v) its.add(e.getKey());
            for (int e : its) if (s.heldOtherwise(e) > 0) return refuse(3);
            keep();
            for (int e : its) s.entries.remove(e);
            s.entries.get(s.over[v]).count++;
            s.over[v] = NONE;
            s.root[v] = NONE;
            return its.size();
        }

        int trim(int n) {
            if (s.volumes == 0 || n < 1 || n > 100) return refuse(2);
            keep();
            int sum = 0;
            for (int v = s.victim(NONE); v != NONE && sum < n; v = s.victim(NONE)) { s.entries.remove(v); s.trimmed++; sum++; }
            return sum;
        }

        int room(int r) {
            if (s.volumes == 0 || r < 4 || r > 40 || r == s.room) { refuse(2); return 0; }
            keep();
            s.room = r;
            return 1;
        }

        int chance(int n) {
            if (s.volumes == 0 || n < 1 || n > 40) return refuse(2);
            keep();
            int before = s.loaded;
            for (int i = 0; i < n; i++) {
                List<Integer> choice = new ArrayList<>();
                for (int k = 0; k < s.nodes.size(); k++) if (s.node(k) && s.root[s.nodes.get(k).volume] != NONE) choice.add(k);
                seed = Math.floorMod(1103515245L * seed + 12345, 1L << 31);
                s.walk(s.namesTo(choice.get((int) (Math.floorDiv(seed, 64L) % choice.size()))));
            }
            return s.loaded - before;
        }

        int begin(String text) {
            List<String> p = path(text);
            if (p == null || s.walkers.size() == 4) return refuse(5);
            keep();
            int k = 0;
            while (s.walkers.containsKey(k)) k++;
            Walker w = new Walker();
            w.steps = p;
            s.walkers.put(k, w);
            s.come(s.root[0]);
            addToWay(w, s.root[0]);
            return k;
        }

        void addToWay(Walker w, int e) {
            w.way.add(new int[] {e, s.entries.get(e).birth, s.entries.get(e).count});
        }

        int step(int k) {
            Walker w = s.walkers.get(k);
            if (w == null) return refuse(5);
            keep();
            boolean changed = false;
            for (int[] x : w.way) {
                Entry e = s.entries.get(x[0]);
                changed |= e == null || e.birth != x[1] || e.count != x[2];
            }
            int at = w.way.get(w.way.size() - 1)[0];
            int turns = 1;
            if (changed) {
                w.way.clear();
                s.sweep();
                w.restarts++;
                w.heavy = true;
                w.done = 0;
                at = s.root[0];
                s.come(at);
                addToWay(w, at);
                if (w.restarts == 3) turns = w.steps.size();
            } else if (!w.heavy && w.done < w.steps.size() && !w.steps.get(w.done).startsWith(".")) {
                w.heavy = s.find(at, w.steps.get(w.done)) == NONE;
            }
            for (int t = 0; t < turns && w.done < w.steps.size() && at >= 0; t++) {
                List<Integer> came = new ArrayList<>();
                at = s.step(at, w.steps.get(w.done++), came);
                if (at >= 0) for (int e : came) addToWay(w, e);
            }
            if (at >= 0 && w.done < w.steps.size()) return 0;
            result = new int[] {at < 0 ? at : s.entries.get(at).node, at < 0 ? NONE : at, w.restarts, w.heavy ? 1 : 0};
            s.walkers.remove(k);
            s.sweep();
            return at < 0 ? at : 1;
        }

        int result(int what) { return result == null || what < 0 || what > 3 ? NONE : result[what]; }

        int quit(int k) {
            if (!s.walkers.containsKey(k)) { refuse(5); return 0; }
            keep();
            s.walkers.remove(k);
            s.sweep();
            return 1;
        }

        int trace(String text) {
            List<List<String>> row = paths(text, 1, 12);
            if (row == null) return refuse(5);
            trace = row;
            seen = NONE;
            return row.size();
        }

        List<Integer> loadsOf(int room) {
            State t = s.copy();
            t.handles.clear();
            t.walkers.clear();
            TreeSet<Integer> stay = new TreeSet<>();
            for (int v = 0; v < 3; v++) {
                if (t.root[v] != NONE) stay.add(t.root[v]);
                for (int e = t.over[v]; e != NONE; e = t.entries.get(e).parent) stay.add(e);
            }
            t.entries.keySet().retainAll(stay);
            t.room = room;
            List<Integer> out = new ArrayList<>();
            for (List<String> p : trace) {
                int before = t.loaded;
                t.walk(p);
                out.add(t.loaded - before);
            }
            return out;
        }

        int loads(int room) {
            if (trace.isEmpty() || room < 4 || room > 40) return NONE;
            int sum = 0;
            for (int x : loadsOf(room)) sum += x;
            return sum;
        }

        int least(int n) {
            for (int r = 4; r <= 40 && !trace.isEmpty(); r++) if (loads(r) <= n) return r;
            return NONE;
        }

        int see(int n) {
            if (trace.isEmpty() || n < 0) { refuse(5); return 0; }
            seen = n;
            return 1;
        }

        List<Integer> fitList() {
            List<Integer> list = new ArrayList<>();
            for (int r = 4; r <= 40; r++) if (seen == NONE || loads(r) == seen) list.add(r);
            return list;
        }

        int fits(int k) {
            if (trace.isEmpty()) return NONE;
            List<Integer> list = fitList();
            return k == NONE ? list.size() : k >= 0 && k < list.size() ? list.get(k) : NONE;
        }

        int tells(int what) {
            if (trace.isEmpty() || what < 0 || what > 1) return NONE;
            List<List<Integer>> rows = new ArrayList<>();
            for (int r : fitList()) rows.add(loadsOf(r));
            if (rows.isEmpty()) return NONE;
            int best = NONE, fewest = 1000;
            for (int p = 0; p < trace.size(); p++) {
                TreeMap<Integer, Integer> classes = new TreeMap<>();
                for (List<Integer> row : rows) classes.merge(row.get(p), 1, Integer::sum);
                int most = 0;
                for (int c : classes.values()) most = Math.max(most, c);
                if (most < fewest) { fewest = most; best = p; }
            }
            return what == 0 ? best : fewest;
        }

        int undo() {
            if (past.isEmpty()) { refuse(4); return 0; }
            s = past.removeLast();
            return 1;
        }

        int seed(int x) {
            if (x < 0) { refuse(5); return 0; }
            seed = x;
            return 1;
        }
    }

    // ------------------------------------------------------------------ random runs

    static final class Run {
        final Random random;
        final NameKeeper x = new NameKeeper();
        final Model m = new Model();
        final List<String> log = new ArrayList<>();
        int calls = 0;
        String wrong;
        final int letters;
        final int style;

        Run(int seed) {
            random = new Random(seed);
            letters = 2 + random.nextInt(4);
            style = random.nextInt(4);
        }

        int below(int n) { return random.nextInt(n); }

        String name() {
            String n = "" + (char) ('a' + below(letters));
            if (below(6) == 0) n += (char) ('a' + below(2));
            if (below(60) == 0) n += "zz";
            return n;
        }

        void items(StringBuilder b, int depth, int[] left) {
            int n = below(depth == 0 ? 6 : 4) + (depth == 0 ? 1 : 0);
            TreeSet<String> here = new TreeSet<>();
            for (int i = 0; i < n && left[0] > 0; i++) {
                String name = name();
                if (!here.add(name) && below(300) > 0) continue;
                left[0]--;
                b.append(name).append(below(2) == 0 ? " " : "\n");
                if (below(3) > 0 && depth < 7 + below(3)) {
                    b.append("{");
                    items(b, depth + 1, left);
                    b.append("}");
                }
            }
        }

        String treeText() {
            StringBuilder b = new StringBuilder();
            int[] left = {below(45)};
            int n = 1 + below(3) + (below(30) == 0 ? 1 : 0);
            for (int v = 0; v < n; v++) {
                items(b, 0, left);
                b.append(";");
            }
            if (below(6) == 0) {
                for (int i = 1 + below(2); i > 0; i--) {
                    int at = below(b.length());
                    String bad = "{};a1 .\nz";
                    if (below(3) == 0) b.setLength(at);
                    else if (below(2) == 0) b.deleteCharAt(at);
                    else b.insert(at, bad.charAt(below(bad.length())));
                    if (b.length() == 0) break;
                }
            }
            return b.length() > 400 ? b.substring(0, 400) : b.toString();
        }

        String path() {
            if (below(40) == 0) return new String[] {"", "a", "//", "/a/", "/...", "/A", "/a b", "/abcde", " /a", "/a ", "/ a"}[below(11)];
            if (below(25) == 0) return "/";
            // a place that is there is come to more often than one by chance
            StringBuilder b = new StringBuilder();
            int n = 1 + below(5) + (below(15) == 0 ? 8 : 0);
            if (below(2) == 0 && m.s.volumes > 0) {
                List<Integer> choice = new ArrayList<>();
                for (int k = 0; k < m.s.nodes.size(); k++) if (m.s.node(k) && m.s.root[m.s.nodes.get(k).volume] != NONE) choice.add(k);
                for (String s : m.s.namesTo(choice.get(below(choice.size())))) b.append("/").append(s);
                n = below(3);
            }
            for (int i = 0; i < n; i++) b.append("/").append(below(5) == 0 ? ".." : below(8) == 0 ? "." : name());
            return b.length() == 0 ? "/" : b.toString();
        }

        /** The PATH of a NODE that is there, a folder or any. */
        String placed(boolean folder) {
            if (m.s.volumes == 0 || below(8) == 0) return path();
            List<Integer> choice = new ArrayList<>();
            for (int k = 0; k < m.s.nodes.size(); k++) {
                Node n = m.s.nodes.get(k);
                if (n.there && m.s.root[n.volume] != NONE && (!folder || n.folder == 1)) choice.add(k);
            }
            String p = "/" + String.join("/", m.s.namesTo(choice.get(below(choice.size()))));
            return p.length() > 60 ? "/" : p;
        }

        /** A folder's PATH with a NAME behind it. */
        String fresh() {
            if (below(8) == 0) return path();
            String p = placed(true);
            return (p.equals("/") ? "" : p) + "/" + name();
        }

        /** Each is one call of the object; what is answered behind its 512th is free. */
        void check(String call, long got, long want) {
            calls++;
            if (calls > MOST_CALLS) return;
            log.add(call + " = " + want);
            if (got != want && wrong == null) {
                wrong = call + " answered " + got + ", due is " + want + "\n" + String.join("\n", log);
            }
        }

        String put(String text) {
            int total = 0;
            for (int i = 0; i < text.length(); i += 20) {
                int[] w = new int[5];
                for (int k = 0; k < 20; k++) {
                    int c = i + k < text.length() ? text.charAt(i + k) : 32;
                    w[k / 4] = w[k / 4] << 8 | c;
                }
                total += 20;
                check("feed", x.feed(w[0], w[1], w[2], w[3], w[4]), total);
            }
            check("end " + text.length(), x.end(text.length()) ? 1 : 0, 1);
            return text;
        }

        int flag(boolean b) { return b ? 1 : 0; }

        void act() {
            String p;
            int kind = below(style == 0 ? 34 : 30);
            // the first style undoes much, the second has WALKERS on ways that change, the third makes much
            if (style == 1 && below(2) == 0) kind = new int[] {7, 12, 14, 18, 20, 20, 20, 16, 3}[below(9)];
            if (style == 2 && below(2) == 0) kind = new int[] {3, 3, 3, 0, 5, 9}[below(6)];
            if (style == 1 && below(4) == 0) {
                tease();
                return;
            }
            switch (kind) {
                case 0: case 1: case 2: p = put(path()); check("look " + p, x.look(), m.look(p)); break;
                case 3: case 4: p = put(fresh()); boolean f = below(2) == 0; check("make " + p, x.make(f), m.make(p, f)); break;
                case 5: case 6: p = put(placed(false)); check("remove " + p, x.remove(), m.remove(p)); break;
                case 7: case 8: p = put(placed(false) + (below(30) == 0 ? "" : " " + fresh())); check("rename " + p, x.rename(), m.rename(p)); break;
                case 9: case 10: p = put(placed(false)); check("open " + p, x.open(), m.open(p)); break;
                case 11: { int h = below(8) - 1; check("close " + h, flag(x.close(h)), m.close(h)); break; }
                case 12: case 13: p = put(placed(true)); { int v = below(4); check("mount " + p + " " + v, x.mount(v), m.mount(p, v)); } break;
                case 14: { int v = below(5) - 1; check("unmount " + v, x.unmount(v), m.unmount(v)); break; }
                case 15: { int n = below(8); check("trim " + n, x.trim(n), m.trim(n)); break; }
                case 16: { int r = below(3) == 0 ? below(45) : 3 + below(6); check("room " + r, flag(x.room(r)), m.room(r)); break; }
                case 17: { int n = below(3) == 0 ? below(45) - 1 : 1 + below(4); check("chance " + n, x.chance(n), m.chance(n)); break; }
                case 18: case 19: p = put(below(3) == 0 ? path() : placed(false)); check("begin " + p, x.begin(), m.begin(p)); break;
                case 20: case 21: case 22: case 23: case 24: { int w = below(5) - below(2); check("step " + w, x.step(w), m.step(w)); break; }
                case 25: { int w = below(6) - 1; if (below(3) == 0) check("quit " + w, flag(x.quit(w)), m.quit(w)); break; }
                case 26: check("undo", flag(x.undo()), m.undo()); break;
                case 27: { int n = below(1 << 30) * (below(5) == 0 ? -1 : 1); if (below(3) == 0) check("seed " + n, flag(x.seed(n)), m.seed(n)); break; }
                case 28: case 29: traces(); break;
                default: check("undo", flag(x.undo()), m.undo());
            }
        }

        /** Renames a folder on a WALKER's WAY and back, so that its next STEP begins anew and comes on. */
        void tease() {
            int w = below(4);
            Walker walker = m.s.walkers.get(w);
            if (walker == null) return;
            int e = walker.way.get(below(walker.way.size()))[0];
            if (!m.s.entries.containsKey(e) || m.s.isRoot(e) || m.s.entries.get(e).gone || m.s.entries.get(e).node == NONE) return;
            List<String> names = m.s.namesTo(m.s.entries.get(e).node);
            String here = "/" + String.join("/", names);
            if (names.size() > 12) return;
            String there = here.substring(0, here.lastIndexOf('/')) + "/tmp";
            String p = put(here + " " + there);
            check("rename " + p, x.rename(), m.rename(p));
            p = put(there + " " + here);
            check("rename " + p, x.rename(), m.rename(p));
            check("step " + w, x.step(w), m.step(w));
        }

        void traces() {
            String p;
            switch (below(6)) {
                case 0: case 1:
                    StringBuilder b = new StringBuilder(path());
                    for (int n = below(13); n > 0 && b.length() < 330; n--) b.append(" ").append(path());
                    p = b.length() > 400 ? "/" : b.toString();
                    put(p);
                    check("trace " + p, x.trace(), m.trace(p));
                    break;
                case 2: { int r = below(44); check("loads " + r, x.loads(r), m.loads(r)); break; }
                case 3: { int n = below(30) - 1; check("least " + n, x.least(n), m.least(n)); break; }
                case 4: { int n = below(2) == 0 ? below(40) - 1 : m.loads(4 + below(10)); check("see " + n, flag(x.see(n)), m.see(n)); break; }
                default:
                    for (int k = -2; k < 5; k++) check("fits " + k, x.fits(k), m.fits(k));
                    for (int k = -1; k < 3; k++) check("tells " + k, x.tells(k), m.tells(k));
            }
        }

        void ask() {
            String p;
            switch (below(4)) {
                case 0: p = put(path()); check("where " + p, x.where(), m.where(p)); break;
                case 1: p = put(path()); check("needs " + p, x.needs(), m.needs(p)); break;
                case 2: {
                    p = put(below(10) == 0 ? path() : name());
                    int parent = below(10) - 1;
                    check("child " + p + " " + parent, x.child(parent), m.child(p, parent));
                    break;
                }
                default: {
                    int h = below(7) - 1;
                    check("path " + h, x.path(h), m.path(h));
                    for (int i = 0; i < 3; i++) { int k = below(m.written.length() + 2) - 1; check("octet " + k, x.octet(k), m.octet(k)); }
                }
            }
        }

        /** So many questions by chance, of numbers that are there and of some beside them. */
        void askSome(int n) {
            for (int i = 0; i < n && calls < MOST_CALLS; i++) {
                int what = below(10) - 1;
                int e = below(m.s.entries.size() + 3) - 1;
                int k = below(8) - 1;
                switch (below(14)) {
                    case 0: case 1: { int w = below(18) - 1; check("has " + w, x.has(w), m.has(w)); break; }
                    case 2: { int node = below(m.s.nodes.size() + 2) - 1; check("node " + node + " " + what, x.node(node, what), m.node(node, what)); break; }
                    case 3: { int node = below(62) - 1; check("letter " + node + " " + what, x.letter(false, node, what), m.letter(false, node, what)); break; }
                    case 4: check("letter of entry " + e + " " + what, x.letter(true, e, what), m.letter(true, e, what)); break;
                    case 5: check("handle " + k, x.handle(k), m.handle(k)); break;
                    case 6: check("walker " + k + " " + what, x.walker(k, what), m.walker(k, what)); break;
                    case 7: check("result " + k, x.result(k), m.result(k)); break;
                    case 8: check("status " + k, x.status(k), k < 0 || k > 5 ? NONE : m.refused[k]); break;
                    case 9: check("fault", x.fault(0), m.fault); check("place", x.fault(1), m.place); break;
                    case 10: { int v = below(14) - 2; check("victim " + v, x.victim(v), m.victim(v)); break; }
                    default: check("entry " + e + " " + what, x.entry(e, what), m.entry(e, what));
                }
            }
        }

        String go() {
            if (below(3) == 0) for (int i = 0; i < 3; i++) act();
            for (int tries = 0; tries < 1 + below(2) || m.s.volumes == 0 && tries < 5; tries++) {
                String t = put(treeText());
                check("trees " + t, x.trees(), m.trees(t));
                askSome(4);
            }
            // the questions alone come behind the acts of one run, all of them between the acts of another
            int acts = 100 + below(400);
            int questions = below(4);
            while (calls < acts && wrong == null) {
                act();
                int mark = log.size();
                if (below(8) == 0) ask();
                askSome(questions);
                if (wrong == null) log.subList(mark, log.size()).clear();
                if (below(200) == 0) {
                    String t = put(treeText());
                    check("trees " + t, x.trees(), m.trees(t));
                }
            }
            askSome(MOST_CALLS);
            return wrong;
        }
    }
}
