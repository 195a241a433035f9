import java.util.Arrays;

/** A heap swept in regions. The document ../shared/DOC.md says, promise by promise, what each call answers. */
public final class PauseRegions {
    public static final int BAD = -1, STATE = -2, FULL = -3, NIL = -5, NONE = -9;

    private static final int REGIONS = 10, CELLS = 8, CARDS = 20, THINGS = 32, ROOTS = 6, IMAGES = 2;
    private static final int CARD_CELLS = 4, SMALL_MOST = 4, SIZE_MOST = 24, GOAL_MOST = 999, UNDO_MOST = 6;
    private static final int FREE = 0, YOUNG = 1, OLD = 2, BIG = 3, REST = 4;
    private static final int WHITE = 0, GREY = 1, BLACK = 2;

    private final Heap heap = new Heap();
    private final Heap trial = new Heap();
    private final History history = new History();
    private final Heap[] images = new Heap[IMAGES];
    private final boolean[] kept = new boolean[IMAGES];
    private final Choice choice = new Choice();
    private final Pause pause = new Pause();
    private final Reach reach = new Reach();

    public PauseRegions() {
        for (int i = 0; i < IMAGES; i++) {
            images[i] = new Heap();
        }
    }

    // ---- the program

    public int makes(int size, int root) {
        if (!within(size, 1, SIZE_MOST) || !isRoot(root)) {
            return BAD;
        }
        int number = heap.unusedNumber();
        int place = heap.roomFor(size);
        if (number == NONE || place == NONE) {
            return FULL;
        }
        history.push(heap);
        heap.makeThing(number, size, place);
        heap.roots[root] = number;
        return number;
    }

    public int writes(int a, int field, int b) {
        if (!isRoot(a) || !within(field, 0, 1) || !isRootOrNil(b)) {
            return BAD;
        }
        if (heap.roots[a] == NIL) {
            return STATE;
        }
        history.push(heap);
        return heap.writeField(heap.roots[a], field, heap.ofRoot(b)) ? 1 : 0;
    }

    public int takes(int a, int b, int field) {
        if (!isRoot(a) || !isRoot(b) || !within(field, 0, 1)) {
            return BAD;
        }
        if (heap.roots[b] == NIL) {
            return STATE;
        }
        history.push(heap);
        heap.roots[a] = heap.fieldOf(heap.roots[b], field);
        return heap.roots[a];
    }

    public int sets(int a, int b) {
        if (!isRoot(a) || !isRootOrNil(b)) {
            return BAD;
        }
        history.push(heap);
        int was = heap.roots[a];
        heap.roots[a] = heap.ofRoot(b);
        return was;
    }

    // ---- beside it

    public int refines(int n) {
        if (!within(n, 1, CARDS)) {
            return BAD;
        }
        if (heap.dirtyCards.length == 0) {
            return STATE;
        }
        history.push(heap);
        return heap.refineOldest(n);
    }

    public int begins() {
        if (heap.marking) {
            return STATE;
        }
        history.push(heap);
        heap.beginMarking();
        return heap.greyThings.length;
    }

    public int steps(int n) {
        if (!within(n, 1, THINGS)) {
            return BAD;
        }
        if (!heap.marking) {
            return STATE;
        }
        history.push(heap);
        for (int i = 0; i < n && heap.marking; i++) {
            heap.markOldest();
        }
        return heap.greyThings.length;
    }

    public int pauses(int goal) {
        if (!isGoal(goal)) {
            return BAD;
        }
        history.push(heap);
        return pause.run(heap, goal);
    }

    public int undo() {
        if (history.known == 0) {
            return STATE;
        }
        history.pop(heap);
        return history.known;
    }

    // ---- asked

    public int root(int r) {
        return isRoot(r) ? heap.roots[r] : BAD;
    }

    public int thing(int t, int what) {
        if (!within(t, 0, THINGS - 1) || !within(what, 0, 5)) {
            return BAD;
        }
        if (!heap.isThere(t)) {
            return NONE;
        }
        switch (what) {
            case 0:
                return heap.size[t];
            case 1:
                return heap.place[t];
            case 2:
                return heap.cell[t];
            case 3:
                return heap.fieldOf(t, 0);
            case 4:
                return heap.fieldOf(t, 1);
            default:
                return heap.marking ? heap.colour[t] : NONE;
        }
    }

    public int region(int r, int what) {
        if (!isRegion(r) || !within(what, 0, 4)) {
            return BAD;
        }
        switch (what) {
            case 0:
                return heap.kind[r];
            case 1:
                return heap.top[r];
            case 2:
                return heap.live[r];
            case 3:
                return heap.thingsIn(r);
            default:
                return Integer.bitCount(heap.memory[r]);
        }
    }

    public int remembers(int r, int card) {
        if (!isRegion(r) || !within(card, 0, CARDS - 1)) {
            return BAD;
        }
        return hasBit(heap.memory[r], card) ? 1 : 0;
    }

    public int dirty(int i) {
        return i < 0 ? BAD : heap.dirtyCards.itemAt(i);
    }

    public int grey(int i) {
        return i < 0 ? BAD : heap.greyThings.itemAt(i);
    }

    public int learnt(int what) {
        if (!within(what, 0, 1)) {
            return BAD;
        }
        return (int) (100f * (what == 0 ? heap.rate : heap.yielded));
    }

    // ---- what would be

    public int chooses(int goal) {
        if (!isGoal(goal)) {
            return BAD;
        }
        choice.choose(heap, goal);
        return choice.regions;
    }

    public int foretold(int goal) {
        if (!isGoal(goal)) {
            return BAD;
        }
        choice.choose(heap, goal);
        return (int) (100f * choice.forecast);
    }

    public int would(int goal) {
        if (!isGoal(goal)) {
            return BAD;
        }
        trial.becomeLike(heap);
        return pause.run(trial, goal);
    }

    public int rubbish(int what) {
        if (!within(what, 0, 1)) {
            return BAD;
        }
        reach.findReached(heap);
        int sum = 0;
        for (int t = 0; t < THINGS; t++) {
            if (heap.isThere(t) && !hasBit(reach.reached, t)) {
                sum += what == 0 ? 1 : heap.size[t];
            }
        }
        return sum;
    }

    public int way(int t, int k) {
        if (!within(t, 0, THINGS - 1) || !heap.isThere(t) || k < -1) {
            return BAD;
        }
        reach.measureTo(heap, t);
        int first = reach.nearestRoot(heap);
        if (first == NONE) {
            return NONE;
        }
        int length = reach.far[first];
        if (k == -1) {
            return length;
        }
        return k < length ? reach.walk(heap, first, k) : NONE;
    }

    // ---- images

    public int keep(int image) {
        if (!isImage(image)) {
            return BAD;
        }
        images[image].becomeLike(heap);
        kept[image] = true;
        return heap.thingCount();
    }

    public int back(int image) {
        if (!isImage(image)) {
            return BAD;
        }
        if (!kept[image]) {
            return STATE;
        }
        heap.becomeLike(images[image]);
        history.forget();
        return heap.thingCount();
    }

    public int count(int what) {
        switch (what) {
            case 0:
                return heap.thingCount();
            case 1:
                return heap.regionsOfKind(FREE);
            case 2:
                return heap.regionsOfKind(YOUNG);
            case 3:
                return heap.dirtyCards.length;
            case 4:
                return heap.greyThings.length;
            case 5:
                return heap.marking ? 1 : 0;
            case 6:
                return heap.pauseCount;
            case 7:
                return heap.lastCost;
            case 8:
                return history.known;
            default:
                return BAD;
        }
    }

    private static boolean within(int x, int low, int high) {
        return x >= low && x <= high;
    }

    private static boolean isRoot(int r) {
        return within(r, 0, ROOTS - 1);
    }

    private static boolean isRootOrNil(int r) {
        return within(r, -1, ROOTS - 1);
    }

    private static boolean isRegion(int r) {
        return within(r, 0, REGIONS - 1);
    }

    private static boolean isImage(int image) {
        return within(image, 0, IMAGES - 1);
    }

    private static boolean isGoal(int goal) {
        return within(goal, 0, GOAL_MOST);
    }

    private static boolean hasBit(int bits, int i) {
        return (bits >> i & 1) == 1;
    }

    private static int cardOf(int region, int cell) {
        return 2 * region + cell / CARD_CELLS;
    }

    private static int regionOfCard(int card) {
        return card / 2;
    }

    /** The bits of both CARDS of a REGION. */
    private static int cardsOf(int region) {
        return 3 << 2 * region;
    }

    /** Numbers in a row, the oldest first, each once; there are more THINGS than CARDS, so one length serves both. */
    private static final class Row {
        final int[] items = new int[THINGS];
        int length;

        void becomeLike(Row other) {
            System.arraycopy(other.items, 0, items, 0, THINGS);
            length = other.length;
        }

        int itemAt(int i) {
            return i >= 0 && i < length ? items[i] : NONE;
        }

        /** Whether it was not in the row yet. */
        boolean append(int item) {
            for (int i = 0; i < length; i++) {
                if (items[i] == item) {
                    return false;
                }
            }
            if (length >= THINGS) {
                return false;
            }
            items[length] = item;
            length++;
            return true;
        }

        void drop(int item) {
            int left = 0;
            for (int i = 0; i < length; i++) {
                if (items[i] != item) {
                    items[left] = items[i];
                    left++;
                }
            }
            length = left;
        }
    }

    /** All of the document's parts 1 to 4: what is UNDONE and what IMAGES keep. */
    private static final class Heap {
        final int[] kind = new int[REGIONS];
        final int[] top = new int[REGIONS];
        final int[] live = new int[REGIONS];
        /** The CARDS that each REGION REMEMBERS, as bits. */
        final int[] memory = new int[REGIONS];
        /** 0 where the number is not used. */
        final int[] size = new int[THINGS];
        final int[] place = new int[THINGS];
        final int[] cell = new int[THINGS];
        /** FIELD f of THING t is at 2 t + f. */
        final int[] fields = new int[2 * THINGS];
        final int[] colour = new int[THINGS];
        final int[] roots = new int[ROOTS];
        final Row dirtyCards = new Row();
        final Row greyThings = new Row();
        boolean marking;
        /** The REGION that became YOUNG last since the latest PAUSE, or NONE. */
        int latestYoung = NONE;
        float rate = 1f;
        float yielded = 0.5f;
        int pauseCount;
        int lastCost = NONE;

        Heap() {
            Arrays.fill(live, NONE);
            Arrays.fill(fields, NIL);
            Arrays.fill(roots, NIL);
        }

        void becomeLike(Heap other) {
            System.arraycopy(other.kind, 0, kind, 0, REGIONS);
            System.arraycopy(other.top, 0, top, 0, REGIONS);
            System.arraycopy(other.live, 0, live, 0, REGIONS);
            System.arraycopy(other.memory, 0, memory, 0, REGIONS);
            System.arraycopy(other.size, 0, size, 0, THINGS);
            System.arraycopy(other.place, 0, place, 0, THINGS);
            System.arraycopy(other.cell, 0, cell, 0, THINGS);
            System.arraycopy(other.fields, 0, fields, 0, 2 * THINGS);
            System.arraycopy(other.colour, 0, colour, 0, THINGS);
            System.arraycopy(other.roots, 0, roots, 0, ROOTS);
            dirtyCards.becomeLike(other.dirtyCards);
            greyThings.becomeLike(other.greyThings);
            marking = other.marking;
            latestYoung = other.latestYoung;
            rate = other.rate;
            yielded = other.yielded;
            pauseCount = other.pauseCount;
            lastCost = other.lastCost;
        }

        // Part 1: things, regions, roots.

        boolean isThere(int t) {
            return size[t] > 0;
        }

        int fieldOf(int t, int field) {
            return fields[2 * t + field];
        }

        /** What a ROOT is; -1 stands for NIL. */
        int ofRoot(int r) {
            return r < 0 ? NIL : roots[r];
        }

        int thingCount() {
            int sum = 0;
            for (int t = 0; t < THINGS; t++) {
                if (isThere(t)) {
                    sum++;
                }
            }
            return sum;
        }

        int thingsIn(int r) {
            int sum = 0;
            for (int t = 0; t < THINGS; t++) {
                if (isIn(t, r)) {
                    sum++;
                }
            }
            return sum;
        }

        boolean isIn(int t, int r) {
            return isThere(t) && place[t] == r;
        }

        int regionsOfKind(int wanted) {
            int sum = 0;
            for (int r = 0; r < REGIONS; r++) {
                if (kind[r] == wanted) {
                    sum++;
                }
            }
            return sum;
        }

        int unusedNumber() {
            for (int t = 0; t < THINGS; t++) {
                if (!isThere(t)) {
                    return t;
                }
            }
            return NONE;
        }

        /** The REGION in which a THING of that SIZE would lie if it were MADE, or NONE. */
        int roomFor(int wanted) {
            if (wanted > SMALL_MOST) {
                return freeRow(regionsFor(wanted));
            }
            return hasRoom(latestYoung, wanted) ? latestYoung : freeRow(1);
        }

        boolean hasRoom(int r, int wanted) {
            return r != NONE && top[r] + wanted <= CELLS;
        }

        int regionsFor(int wanted) {
            return (wanted + CELLS - 1) / CELLS;
        }

        /** The first of the lowest FREE REGIONS side by side, as many as are wanted, or NONE. */
        int freeRow(int wanted) {
            int row = 0;
            for (int r = 0; r < REGIONS; r++) {
                row = kind[r] == FREE ? row + 1 : 0;
                if (row == wanted) {
                    return r - wanted + 1;
                }
            }
            return NONE;
        }

        void makeThing(int t, int wanted, int r) {
            size[t] = wanted;
            fields[2 * t] = NIL;
            fields[2 * t + 1] = NIL;
            colour[t] = BLACK;
            if (wanted > SMALL_MOST) {
                takeRegions(r, regionsFor(wanted));
                place[t] = r;
                cell[t] = 0;
                return;
            }
            kind[r] = YOUNG;
            latestYoung = r;
            layAtTop(t, r);
        }

        void takeRegions(int first, int wanted) {
            for (int r = first; r < first + wanted && r < REGIONS; r++) {
                kind[r] = r == first ? BIG : REST;
                top[r] = CELLS;
            }
        }

        void layAtTop(int t, int r) {
            place[t] = r;
            cell[t] = top[r];
            top[r] += size[t];
        }

        /** Whether a CARD became DIRTY by it. */
        boolean writeField(int t, int field, int value) {
            int was = fieldOf(t, field);
            if (marking) {
                becomeGrey(was);
            }
            fields[2 * t + field] = value;
            if (value == NIL || place[value] == place[t] || kind[place[t]] == YOUNG) {
                return false;
            }
            return dirtyCards.append(cardOfThing(t));
        }

        // Part 2: cards.

        int cardOfThing(int t) {
            return cardOf(place[t], cell[t]);
        }

        boolean isOn(int t, int card) {
            return isThere(t) && cardOfThing(t) == card;
        }

        /** The THING whose first CELL that is, or NONE. */
        int thingAt(int r, int c) {
            for (int t = 0; t < THINGS; t++) {
                if (isIn(t, r) && cell[t] == c) {
                    return t;
                }
            }
            return NONE;
        }

        /** How many were REFINED: at most n. */
        int refineOldest(int n) {
            int refined = 0;
            for (int i = 0; i < n && dirtyCards.length > 0; i++) {
                refineCard(dirtyCards.itemAt(0));
                refined++;
            }
            return refined;
        }

        void refineCard(int card) {
            dirtyCards.drop(card);
            for (int t = 0; t < THINGS; t++) {
                if (isOn(t, card)) {
                    noteField(card, fieldOf(t, 0));
                    noteField(card, fieldOf(t, 1));
                }
            }
        }

        void noteField(int card, int value) {
            if (value != NIL && place[value] != regionOfCard(card)) {
                memory[place[value]] |= 1 << card;
            }
        }

        /** A REGION becomes FREE, with its RESTS; its THINGS are gone already. */
        void freeWithRests(int r) {
            boolean big = kind[r] == BIG;
            freeOne(r);
            for (int next = r + 1; big && next < REGIONS && kind[next] == REST; next++) {
                freeOne(next);
            }
        }

        void freeOne(int r) {
            kind[r] = FREE;
            top[r] = 0;
            live[r] = NONE;
            memory[r] = 0;
            dirtyCards.drop(cardOf(r, 0));
            dirtyCards.drop(cardOf(r, CARD_CELLS));
            for (int other = 0; other < REGIONS; other++) {
                memory[other] &= ~cardsOf(r);
            }
        }

        void endThing(int t) {
            size[t] = 0;
            for (int i = 0; i < 2 * THINGS; i++) {
                if (fields[i] == t) {
                    fields[i] = NIL;
                }
            }
        }

        // Part 3: marking.

        void beginMarking() {
            marking = true;
            Arrays.fill(colour, WHITE);
            for (int r = 0; r < ROOTS; r++) {
                becomeGrey(roots[r]);
            }
            endMarkingIfNoneGrey();
        }

        void becomeGrey(int t) {
            if (t != NIL && colour[t] == WHITE) {
                colour[t] = GREY;
                greyThings.append(t);
            }
        }

        void markOldest() {
            int t = greyThings.itemAt(0);
            if (t != NONE) {
                greyThings.drop(t);
                colour[t] = BLACK;
                becomeGrey(fieldOf(t, 0));
                becomeGrey(fieldOf(t, 1));
            }
            endMarkingIfNoneGrey();
        }

        void endMarkingIfNoneGrey() {
            if (greyThings.length > 0) {
                return;
            }
            marking = false;
            for (int r = 0; r < REGIONS; r++) {
                if (kind[r] == OLD) {
                    live[r] = blackCells(r);
                }
            }
            for (int r = 0; r < REGIONS; r++) {
                if ((kind[r] == OLD || kind[r] == BIG) && blackCells(r) == 0) {
                    endThingsIn(r);
                    freeWithRests(r);
                }
            }
        }

        int blackCells(int r) {
            int sum = 0;
            for (int t = 0; t < THINGS; t++) {
                if (isIn(t, r) && colour[t] == BLACK) {
                    sum += size[t];
                }
            }
            return sum;
        }

        void endThingsIn(int r) {
            for (int t = 0; t < THINGS; t++) {
                if (isIn(t, r)) {
                    endThing(t);
                }
            }
        }
    }

    /** Which REGIONS a PAUSE by a GOAL takes, and how long it is FORETOLD to be. */
    private static final class Choice {
        /** As bits. */
        int regions;
        int youngCells;
        float forecast;

        void choose(Heap heap, int goal) {
            regions = 0;
            youngCells = 0;
            for (int r = 0; r < REGIONS; r++) {
                if (heap.kind[r] == YOUNG) {
                    regions |= 1 << r;
                    youngCells += heap.top[r];
                }
            }
            forecast = 10f + heap.rate * (heap.yielded * (float) youngCells);
            chooseOld(heap, (float) goal);
        }

        void chooseOld(Heap heap, float goal) {
            for (int i = 0; i < REGIONS; i++) {
                int r = bestOld(heap);
                if (r == NONE) {
                    return;
                }
                float longer = forecast + heap.rate * (float) heap.live[r];
                if (longer > goal) {
                    return;
                }
                regions |= 1 << r;
                forecast = longer;
            }
        }

        /** The OLD REGION of the greatest GAIN that is not CHOSEN yet, or NONE. */
        int bestOld(Heap heap) {
            int best = NONE;
            int bestGain = 1;
            for (int r = 0; r < REGIONS; r++) {
                if (heap.kind[r] == OLD && heap.live[r] != NONE && !hasBit(regions, r)) {
                    int gain = heap.top[r] - heap.live[r];
                    if (gain > bestGain) {
                        best = r;
                        bestGain = gain;
                    }
                }
            }
            return best;
        }
    }

    /** One PAUSE at a time; its rows are used again by the next. */
    private static final class Pause {
        final Choice choice = new Choice();
        final Row found = new Row();
        int target;
        /** CARDS, as bits. */
        int scanned;
        /** THINGS, as bits. */
        int stayed;
        int foundCells;
        int foundYoungCells;
        int copiedCells;

        /** Its COST. */
        int run(Heap heap, int goal) {
            forgetLast();
            heap.refineOldest(CARDS);
            choice.choose(heap, goal);
            findFirst(heap);
            scanCards(heap);
            moveFound(heap);
            dirtyMoved(heap);
            sweepChosen(heap);
            return tellCost(heap);
        }

        void forgetLast() {
            found.length = 0;
            target = NONE;
            scanned = 0;
            stayed = 0;
            foundCells = 0;
            foundYoungCells = 0;
            copiedCells = 0;
        }

        void find(Heap heap, int t) {
            if (t == NIL || !hasBit(choice.regions, heap.place[t]) || !found.append(t)) {
                return;
            }
            foundCells += heap.size[t];
            if (heap.kind[heap.place[t]] == YOUNG) {
                foundYoungCells += heap.size[t];
            }
        }

        void findFirst(Heap heap) {
            for (int r = 0; r < ROOTS; r++) {
                find(heap, heap.roots[r]);
            }
            for (int i = 0; i < THINGS && i < heap.greyThings.length; i++) {
                find(heap, heap.greyThings.itemAt(i));
            }
        }

        void scanCards(Heap heap) {
            for (int r = 0; r < REGIONS; r++) {
                if (hasBit(choice.regions, r)) {
                    scanned |= heap.memory[r];
                }
            }
            for (int card = 0; card < CARDS; card++) {
                if (hasBit(choice.regions, regionOfCard(card))) {
                    scanned &= ~(1 << card);
                } else if (hasBit(scanned, card)) {
                    scanCard(heap, card);
                }
            }
        }

        void scanCard(Heap heap, int card) {
            int first = card % 2 * CARD_CELLS;
            for (int c = first; c < first + CARD_CELLS; c++) {
                int t = heap.thingAt(regionOfCard(card), c);
                if (t != NONE) {
                    findFields(heap, t);
                }
            }
        }

        void findFields(Heap heap, int t) {
            find(heap, heap.fieldOf(t, 0));
            find(heap, heap.fieldOf(t, 1));
        }

        /** What was moved already lies in no CHOSEN REGION any more, but it is FOUND already. */
        void moveFound(Heap heap) {
            for (int i = 0; i < THINGS && i < found.length; i++) {
                int t = found.itemAt(i);
                move(heap, t);
                findFields(heap, t);
            }
        }

        void move(Heap heap, int t) {
            if (!heap.hasRoom(target, heap.size[t])) {
                int free = heap.freeRow(1);
                if (free == NONE) {
                    stayed |= 1 << t;
                    return;
                }
                heap.kind[free] = OLD;
                target = free;
            }
            heap.layAtTop(t, target);
            copiedCells += heap.size[t];
        }

        void dirtyMoved(Heap heap) {
            for (int i = 0; i < THINGS && i < found.length; i++) {
                heap.dirtyCards.append(heap.cardOfThing(found.itemAt(i)));
            }
            for (int card = 0; card < CARDS; card++) {
                if (hasBit(scanned, card)) {
                    heap.dirtyCards.append(card);
                }
            }
        }

        void sweepChosen(Heap heap) {
            for (int r = 0; r < REGIONS; r++) {
                if (hasBit(choice.regions, r)) {
                    sweep(heap, r);
                }
            }
            heap.latestYoung = NONE;
        }

        void sweep(Heap heap, int r) {
            for (int t = 0; t < THINGS; t++) {
                if (heap.isIn(t, r) && !hasBit(stayed, t)) {
                    heap.endThing(t);
                }
            }
            if (heap.thingsIn(r) == 0) {
                heap.freeWithRests(r);
            } else {
                heap.kind[r] = OLD;
                heap.live[r] = NONE;
            }
        }

        int tellCost(Heap heap) {
            int work = copiedCells + 2 * Integer.bitCount(scanned) + 5 * Integer.bitCount(stayed);
            if (foundCells > 0) {
                heap.rate = 0.75f * heap.rate + 0.25f * ((float) work / (float) foundCells);
            }
            if (choice.youngCells > 0) {
                heap.yielded = 0.75f * heap.yielded + 0.25f * ((float) foundYoungCells / (float) choice.youngCells);
            }
            heap.pauseCount++;
            heap.lastCost = 10 + work;
            return heap.lastCost;
        }
    }

    /** Who is REACHED, and by which WAY; it changes nothing in the heap. */
    private static final class Reach {
        /** As bits. */
        int reached;
        /** How many THINGS lead from each THING to the one measured to, both counted; 0: none do. */
        final int[] far = new int[THINGS];
        final Row waiting = new Row();

        void findReached(Heap heap) {
            reached = 0;
            waiting.length = 0;
            for (int r = 0; r < ROOTS; r++) {
                enter(heap.roots[r]);
            }
            for (int i = 0; i < THINGS && i < waiting.length; i++) {
                int t = waiting.itemAt(i);
                enter(heap.fieldOf(t, 0));
                enter(heap.fieldOf(t, 1));
            }
        }

        void enter(int t) {
            if (t != NIL && waiting.append(t)) {
                reached |= 1 << t;
            }
        }

        void measureTo(Heap heap, int goal) {
            Arrays.fill(far, 0);
            far[goal] = 1;
            boolean grown = true;
            for (int length = 1; length < THINGS && grown; length++) {
                grown = false;
                for (int t = 0; t < THINGS; t++) {
                    if (heap.isThere(t) && far[t] == 0 && leadsTo(heap, t, length)) {
                        far[t] = length + 1;
                        grown = true;
                    }
                }
            }
        }

        boolean leadsTo(Heap heap, int t, int length) {
            return isFar(heap.fieldOf(t, 0), length) || isFar(heap.fieldOf(t, 1), length);
        }

        boolean isFar(int t, int length) {
            return t != NIL && far[t] == length;
        }

        /** The THING of a ROOT from which the WAY starts, or NONE. */
        int nearestRoot(Heap heap) {
            int best = NONE;
            for (int r = 0; r < ROOTS; r++) {
                int t = heap.roots[r];
                if (t != NIL && far[t] > 0 && (best == NONE || isNearer(t, best))) {
                    best = t;
                }
            }
            return best;
        }

        boolean isNearer(int t, int than) {
            return far[t] < far[than] || far[t] == far[than] && t < than;
        }

        /** The k-th THING of the WAY that starts at first; it has more than k. */
        int walk(Heap heap, int first, int k) {
            int t = first;
            for (int i = 0; i < k && i < THINGS; i++) {
                t = nextOf(heap, t);
            }
            return t;
        }

        int nextOf(Heap heap, int t) {
            int length = far[t] - 1;
            int one = heap.fieldOf(t, 0);
            int other = heap.fieldOf(t, 1);
            if (!isFar(one, length)) {
                return isFar(other, length) ? other : t;
            }
            return isFar(other, length) ? Math.min(one, other) : one;
        }
    }

    /** What can be UNDONE: the latest states, in a ring. */
    private static final class History {
        final Heap[] past = new Heap[UNDO_MOST];
        int next;
        int known;

        History() {
            for (int i = 0; i < UNDO_MOST; i++) {
                past[i] = new Heap();
            }
        }

        void push(Heap heap) {
            past[next].becomeLike(heap);
            next = (next + 1) % UNDO_MOST;
            known = Math.min(known + 1, UNDO_MOST);
        }

        void pop(Heap heap) {
            next = (next + UNDO_MOST - 1) % UNDO_MOST;
            known--;
            heap.becomeLike(past[next]);
        }

        void forget() {
            known = 0;
        }
    }
}
