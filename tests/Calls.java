/** The calls of the face by their names. */
final class Calls {
    private Calls() {
    }

    static long ask(WhoBuiltSails x, String call, int... a) {
        switch (call) {
            case "set": return x.set(a[0], a[1], a[2]);
            case "wright": return x.wright(a[0], a[1], a[2]);
            case "told": return x.told(a[0], a[1]);
            case "asks": return x.asks(a[0], a[1], a[2]);
            case "feed": return x.feed(a[0]);
            case "text": return x.text();
            case "force": return x.force(a[0]);
            case "builds": return x.builds(a[0], a[1]);
            case "bound": return x.bound();
            case "home": return x.home();
            case "day": return x.day();
            case "run": return x.run(a[0], a[1]);
            case "down": return x.down();
            case "yard": return x.yard(a[0], a[1]);
            case "stands": return x.stands(a[0]);
            case "go": return x.go(a[0], a[1]);
            case "worst": return x.worst();
            case "mean": return x.mean(a[0]);
            case "tells": return x.tells(a[0], a[1], a[2]);
            case "film": return x.film(a[0], a[1]);
            case "drawn": return x.drawn(a[0], a[1]);
            case "chance": return x.chance(a[0], a[1], a[2]);
            case "image": return x.image();
            case "back": return x.back();
            case "count": return x.count(a[0]);
            case "sheet": return x.sheet(a[0], a[1], a[2]);
            case "cell": return x.cell(a[0], a[1], a[2]);
            case "copy": return x.copy(a[0], a[1], a[2], a[3], a[4]);
            case "gang": return x.gang(a[0], a[1], a[2], a[3]);
            case "taken": return x.taken(a[0], a[1]);
            default: throw new IllegalArgumentException(call);
        }
    }
}
